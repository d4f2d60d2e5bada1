/-! one instruction of the small machine is the machine's -/
/-- what a body's simulation rests on: its callees' contracts, its ends -/
def mx_Y (p : Program) (l : Launch) (e : Env) (R : Room) (s : State) (m : MethodId) (args : Array Value) (below : List Frame) (meth : Method) (c : Code) (cc : ByteArray) (nL : Nat) (own : String) (A : Nat → Prop) (D : va_G) (cy : Nat → ClassId) (sp : Nat → Nat) (al0 : List Nat) (Qe : State → Prop) (F : mx_F) (C : mx_C) (mT : Nat → Option mx_MT) (ret : Option FieldType) (F1 : Nat → Option (Nat × (Nat → Int))) (d : Nat) (Q : mx_O → mx_H → Prop) : Prop :=
  (∀ (k : Nat) (t : mx_MT) (as : List mx_v) (h : mx_H) (Q' : mx_O → mx_H → Prop), mT k = some t → C k as h Q' → mx_mok t ∧ mx_M l D cy sp F1 d t as h Q') ∧
  (∀ k x, F1 k = some x → F.1 k = some x) ∧ (d + 9 ≤ R.frames ∧ 64 * d + 264 ≤ R.locals) ∧
  (∀ (pc : Nat) (L : mx_L) (n : Int) (h : mx_H) (u : Nat × Nat), ret = some .int → u.1 ≤ F.2.2.1 ∧ u.2 ≤ F.2.2.2 → Q (.inl (some (mx_I n))) h → decode cc pc = .ok (.ireturn, 1) → mx_G p l e R s m args below meth c nL A D cy sp al0 Qe pc L [mx_I n] h u) ∧
  (∀ (pc : Nat) (L : mx_L) (n : Int) (h : mx_H) (u : Nat × Nat), ret = some .boolean → (w32 n = 0 ∨ w32 n = 1) → u.1 ≤ F.2.2.1 ∧ u.2 ≤ F.2.2.2 → Q (.inl (some (mx_I n))) h → decode cc pc = .ok (.ireturn, 1) → mx_G p l e R s m args below meth c nL A D cy sp al0 Qe pc L [mx_I n] h u) ∧
  (∀ (pc : Nat) (L : mx_L) (n : Int) (h : mx_H) (u : Nat × Nat), ret = some .char → (0 ≤ w32 n ∧ w32 n ≤ 65535) → u.1 ≤ F.2.2.1 ∧ u.2 ≤ F.2.2.2 → Q (.inl (some (mx_I n))) h → decode cc pc = .ok (.ireturn, 1) → mx_G p l e R s m args below meth c nL A D cy sp al0 Qe pc L [mx_I n] h u) ∧
  (∀ (pc : Nat) (L : mx_L) (n : Int) (h : mx_H) (u : Nat × Nat), ret = some .byte → (-128 ≤ w32 n ∧ w32 n ≤ 127) → u.1 ≤ F.2.2.1 ∧ u.2 ≤ F.2.2.2 → Q (.inl (some (mx_I n))) h → decode cc pc = .ok (.ireturn, 1) → mx_G p l e R s m args below meth c nL A D cy sp al0 Qe pc L [mx_I n] h u) ∧
  (∀ (pc : Nat) (L : mx_L) (n : Int) (h : mx_H) (u : Nat × Nat), ret = some .long → u.1 ≤ F.2.2.1 ∧ u.2 ≤ F.2.2.2 → Q (.inl (some (mx_J n))) h → decode cc pc = .ok (.lreturn, 1) → mx_G p l e R s m args below meth c nL A D cy sp al0 Qe pc L [mx_J n] h u) ∧
  (∀ (pc : Nat) (L : mx_L) (h : mx_H) (u : Nat × Nat), ret = none → u.1 ≤ F.2.2.1 ∧ u.2 ≤ F.2.2.2 → Q (.inl none) h → decode cc pc = .ok (.return_, 1) → mx_G p l e R s m args below meth c nL A D cy sp al0 Qe pc L [] h u) ∧
  (∀ (pc : Nat) (L : mx_L) (x : Nat) (h : mx_H) (u : Nat × Nat), u.1 ≤ F.2.2.1 ∧ u.2 ≤ F.2.2.2 → (∀ i t, mx_hnd F.2.1 pc x = some (i, t) → mx_G p l e R s m args below meth c nL A D cy sp al0 Qe t ((mx_clr L i).set i none) [] h u) → (mx_hnd F.2.1 pc x = none → Q (.inr x) h) → mx_GX p l e R s m args below meth c nL A D cy sp al0 Qe pc L x h u) ∧
  (∀ (pc : Nat) (L : mx_L) (st : List mx_v) (x ik : Nat) (h : mx_H) (u : Nat × Nat), own = "NoonWords" → x < 4 → F.2.1 = [] → Cond.classLink own ik (mx_ex x) ∈ mx_Ts → Cond.initialized (mx_ex x) ∈ mx_Ts → u.1 + 1 ≤ F.2.2.1 ∧ u.2 + 6 ≤ F.2.2.2 → mx_wt st ≤ 8 → Q (.inr x) h →
    decode cc pc = .ok (.new ik, 3) → decode cc (pc + 3) = .ok (.dup, 1) → decode cc (pc + 4) = .ok (.invokespecial (mx_ic x), 3) → decode cc (pc + 7) = .ok (.athrow, 1) → mx_G p l e R s m args below meth c nL A D cy sp al0 Qe pc L st h u)
section MXD
variable {p : Program} {l : Launch} {e : Env} {R : Room} {s : State} {m : MethodId} {args : Array Value} {below : List Frame} {meth : Method} {c : Code} {cc : ByteArray} {nL : Nat} {own : String} {A : Nat → Prop} {D : va_G} {cy : Nat → ClassId} {sp : Nat → Nat} {F : mx_F} {al0 : List Nat} {Qe : State → Prop} {C : mx_C} {mT : Nat → Option mx_MT} {ret : Option FieldType} {F1 : Nat → Option (Nat × (Nat → Int))} {d : Nat} {Q : mx_O → mx_H → Prop}
theorem mx_ble {n : Nat} (h : Nat.ble n 8 = true) : n ≤ 8 := Nat.le_of_ble_eq_true h
set_option maxHeartbeats 4000000 in
set_option maxRecDepth 100000 in
theorem mx_sim_step (X : mx_X p l s m args meth c R cc nL own A D cy sp F) (Y : mx_Y p l e R s m args below meth c cc nL own A D cy sp al0 Qe F C mT ret F1 d Q) {ini : Bool} (hini : ini = true → meth.name = "<init>") {pc ln : Nat} {ig : Instr} {inf : List Nat} {L : mx_L} {st : List mx_v} {h : mx_H} {u : Nat × Nat} {K : mx_L → List mx_v → mx_H → Nat × Nat → Prop} {J : Nat → mx_L → List mx_v → mx_H → Nat × Nat → Prop}
    (hok : mx_okB own cc nL ret ini mT (pc, ig, ln, inf) = true) (hu : u.1 ≤ F.2.2.1 ∧ u.2 ≤ F.2.2.2) (hst : mx_step F C (pc, ig, ln, inf) L st h u K J Q)
    (hK : ∀ (L : mx_L) (st : List mx_v) (h : mx_H) (u : Nat × Nat), u.1 ≤ F.2.2.1 ∧ u.2 ≤ F.2.2.2 → K L st h u → mx_G p l e R s m args below meth c nL A D cy sp al0 Qe (pc + ln) L st h u) (hJ : ∀ (t : Nat) (L : mx_L) (st : List mx_v) (h : mx_H) (u : Nat × Nat), u.1 ≤ F.2.2.1 ∧ u.2 ≤ F.2.2.2 → J t L st h u → mx_G p l e R s m args below meth c nL A D cy sp al0 Qe t L st h u) : mx_G p l e R s m args below meth c nL A D cy sp al0 Qe pc L st h u := by
  unfold mx_okB at hok
  simp only [Bool.and_eq_true, decide_eq_true_eq] at hok
  obtain ⟨⟨hd, hln⟩, hi⟩ := hok
  obtain ⟨yC, yF, yR, yI, yZ, yCh, yBy, yJ, yV, yX, yT⟩ := Y
  have go : ∀ (k : Nat) (as rest : List mx_v) (u' : Nat × Nat), u'.1 ≤ F.2.2.1 ∧ u'.2 ≤ F.2.2.2 → (∀ x h', mx_aft F pc L u' (fun r h => K L (r.toList ++ rest) h u') J Q (.inr x) h' → mx_GX p l e R s m args below meth c nL A D cy sp al0 Qe pc L x h' u') := by
    intro k as rest u' hu' x h' ha
    refine yX pc L x h' u' hu' (fun i t e9 => ?_) (fun e9 => ?_)
    · unfold mx_aft at ha
      simp only [e9] at ha
      exact hJ t _ _ h' u' hu' ha
    · unfold mx_aft at ha
      simp only [e9] at ha
      exact ha
  cases ig
  case iconst n =>
    have hln := eq_of_beq hln
    subst hln
    unfold mx_step at hst
    dsimp only at hst
    exact mx_s_iconst X hd (hK _ _ _ _ hu hst)
  case bipush n =>
    have hln := eq_of_beq hln
    subst hln
    unfold mx_step at hst
    dsimp only at hst
    exact mx_s_bipush X hd (of_decide_eq_true hi) (hK _ _ _ _ hu hst)
  case sipush n =>
    have hln := eq_of_beq hln
    subst hln
    unfold mx_step at hst
    dsimp only at hst
    exact mx_s_sipush X hd (of_decide_eq_true hi) (hK _ _ _ _ hu hst)
  case lconst n =>
    have hln := eq_of_beq hln
    subst hln
    unfold mx_step at hst
    dsimp only at hst
    exact mx_s_lconst X hd (hK _ _ _ _ hu hst)
  case iload_n k =>
    have hln := eq_of_beq hln
    subst hln
    unfold mx_step at hst
    dsimp only at hst
    split at hst
    · next n e9 => exact mx_s_iload_n X hd (mx_getD e9) (hK _ _ _ _ hu hst)
    · exact hst.elim
  case iload k =>
    have hln := eq_of_beq hln
    subst hln
    unfold mx_step at hst
    dsimp only at hst
    split at hst
    · next n e9 => exact mx_s_iload X hd (mx_getD e9) (hK _ _ _ _ hu hst)
    · exact hst.elim
  case lload_n k =>
    have hln := eq_of_beq hln
    subst hln
    unfold mx_step at hst
    dsimp only at hst
    split at hst
    · next n e9 => exact mx_s_lload_n X hd (mx_getD e9) (hK _ _ _ _ hu hst)
    · exact hst.elim
  case lload k =>
    have hln := eq_of_beq hln
    subst hln
    unfold mx_step at hst
    dsimp only at hst
    split at hst
    · next n e9 => exact mx_s_lload X hd (mx_getD e9) (hK _ _ _ _ hu hst)
    · exact hst.elim
  case aload_n k =>
    have hln := eq_of_beq hln
    subst hln
    unfold mx_step at hst
    dsimp only at hst
    split at hst
    · next q e9 => exact mx_s_aload_n X hd (mx_getD e9) (hK _ _ _ _ hu hst)
    · next q e9 => exact mx_s_aloadS_n X hd (mx_getD e9) (hK _ _ _ _ hu hst)
    · exact hst.elim
  case aload k =>
    have hln := eq_of_beq hln
    subst hln
    unfold mx_step at hst
    dsimp only at hst
    split at hst
    · next q e9 => exact mx_s_aload X hd (mx_getD e9) (hK _ _ _ _ hu hst)
    · next q e9 => exact mx_s_aloadS X hd (mx_getD e9) (hK _ _ _ _ hu hst)
    · exact hst.elim
  case istore_n k =>
    have hln := eq_of_beq hln
    subst hln
    unfold mx_step at hst
    dsimp only at hst
    split at hst
    · exact mx_s_istore_n X hd rfl (of_decide_eq_true hi) (hK _ _ _ _ hu hst)
    · exact hst.elim
  case istore k =>
    have hln := eq_of_beq hln
    subst hln
    unfold mx_step at hst
    dsimp only at hst
    split at hst
    · exact mx_s_istore X hd (of_decide_eq_true hi) (hK _ _ _ _ hu hst)
    · exact hst.elim
  case lstore_n k =>
    have hln := eq_of_beq hln
    subst hln
    unfold mx_step at hst
    dsimp only at hst
    split at hst
    · exact mx_s_lstore_n X hd rfl (of_decide_eq_true hi) (hK _ _ _ _ hu hst)
    · exact hst.elim
  case lstore k =>
    have hln := eq_of_beq hln
    subst hln
    unfold mx_step at hst
    dsimp only at hst
    split at hst
    · exact mx_s_lstore X hd (of_decide_eq_true hi) (hK _ _ _ _ hu hst)
    · exact hst.elim
  case astore_n k =>
    have hln := eq_of_beq hln
    subst hln
    unfold mx_step at hst
    dsimp only at hst
    split at hst
    · exact mx_s_astore_n X hd rfl (of_decide_eq_true hi) (hK _ _ _ _ hu hst)
    · exact hst.elim
  case astore k =>
    have hln := eq_of_beq hln
    subst hln
    unfold mx_step at hst
    dsimp only at hst
    split at hst
    · exact mx_s_astore X hd (of_decide_eq_true hi) (hK _ _ _ _ hu hst)
    · exact hst.elim
  case iinc k n =>
    have hln := eq_of_beq hln
    subst hln
    unfold mx_step at hst
    dsimp only at hst
    split at hst
    · next x e9 => exact mx_s_iinc X hd (of_decide_eq_true hi) (mx_getD e9) (hK _ _ _ _ hu hst)
    · exact hst.elim
  case iadd =>
    have hln := eq_of_beq hln
    subst hln
    unfold mx_step at hst
    dsimp only at hst
    split at hst
    · exact mx_s_iadd X hd (hK _ _ _ _ hu hst)
    · exact hst.elim
  case isub =>
    have hln := eq_of_beq hln
    subst hln
    unfold mx_step at hst
    dsimp only at hst
    split at hst
    · exact mx_s_isub X hd (hK _ _ _ _ hu hst)
    · exact hst.elim
  case imul =>
    have hln := eq_of_beq hln
    subst hln
    unfold mx_step at hst
    dsimp only at hst
    split at hst
    · exact mx_s_imul X hd (hK _ _ _ _ hu hst)
    · exact hst.elim
  case ineg =>
    have hln := eq_of_beq hln
    subst hln
    unfold mx_step at hst
    dsimp only at hst
    split at hst
    · exact mx_s_ineg X hd (hK _ _ _ _ hu hst)
    · exact hst.elim
  case iand =>
    have hln := eq_of_beq hln
    subst hln
    unfold mx_step at hst
    dsimp only at hst
    split at hst
    · exact mx_s_iand X hd (hK _ _ _ _ hu hst)
    · exact hst.elim
  case ior =>
    have hln := eq_of_beq hln
    subst hln
    unfold mx_step at hst
    dsimp only at hst
    split at hst
    · exact mx_s_ior X hd (hK _ _ _ _ hu hst)
    · exact hst.elim
  case ixor =>
    have hln := eq_of_beq hln
    subst hln
    unfold mx_step at hst
    dsimp only at hst
    split at hst
    · exact mx_s_ixor X hd (hK _ _ _ _ hu hst)
    · exact hst.elim
  case ishl =>
    have hln := eq_of_beq hln
    subst hln
    unfold mx_step at hst
    dsimp only at hst
    split at hst
    · exact mx_s_ishl X hd (hK _ _ _ _ hu hst)
    · exact hst.elim
  case ishr =>
    have hln := eq_of_beq hln
    subst hln
    unfold mx_step at hst
    dsimp only at hst
    split at hst
    · exact mx_s_ishr X hd (hK _ _ _ _ hu hst)
    · exact hst.elim
  case iushr =>
    have hln := eq_of_beq hln
    subst hln
    unfold mx_step at hst
    dsimp only at hst
    split at hst
    · exact mx_s_iushr X hd (hK _ _ _ _ hu hst)
    · exact hst.elim
  case ladd =>
    have hln := eq_of_beq hln
    subst hln
    unfold mx_step at hst
    dsimp only at hst
    split at hst
    · exact mx_s_ladd X hd (hK _ _ _ _ hu hst)
    · exact hst.elim
  case lsub =>
    have hln := eq_of_beq hln
    subst hln
    unfold mx_step at hst
    dsimp only at hst
    split at hst
    · exact mx_s_lsub X hd (hK _ _ _ _ hu hst)
    · exact hst.elim
  case lmul =>
    have hln := eq_of_beq hln
    subst hln
    unfold mx_step at hst
    dsimp only at hst
    split at hst
    · exact mx_s_lmul X hd (hK _ _ _ _ hu hst)
    · exact hst.elim
  case lneg =>
    have hln := eq_of_beq hln
    subst hln
    unfold mx_step at hst
    dsimp only at hst
    split at hst
    · exact mx_s_lneg X hd (hK _ _ _ _ hu hst)
    · exact hst.elim
  case land =>
    have hln := eq_of_beq hln
    subst hln
    unfold mx_step at hst
    dsimp only at hst
    split at hst
    · exact mx_s_land X hd (hK _ _ _ _ hu hst)
    · exact hst.elim
  case lor =>
    have hln := eq_of_beq hln
    subst hln
    unfold mx_step at hst
    dsimp only at hst
    split at hst
    · exact mx_s_lor X hd (hK _ _ _ _ hu hst)
    · exact hst.elim
  case lxor =>
    have hln := eq_of_beq hln
    subst hln
    unfold mx_step at hst
    dsimp only at hst
    split at hst
    · exact mx_s_lxor X hd (hK _ _ _ _ hu hst)
    · exact hst.elim
  case lshl =>
    have hln := eq_of_beq hln
    subst hln
    unfold mx_step at hst
    dsimp only at hst
    split at hst
    · exact mx_s_lshl X hd (hK _ _ _ _ hu hst)
    · exact hst.elim
  case lshr =>
    have hln := eq_of_beq hln
    subst hln
    unfold mx_step at hst
    dsimp only at hst
    split at hst
    · exact mx_s_lshr X hd (hK _ _ _ _ hu hst)
    · exact hst.elim
  case lushr =>
    have hln := eq_of_beq hln
    subst hln
    unfold mx_step at hst
    dsimp only at hst
    split at hst
    · exact mx_s_lushr X hd (hK _ _ _ _ hu hst)
    · exact hst.elim
  case i2l =>
    have hln := eq_of_beq hln
    subst hln
    unfold mx_step at hst
    dsimp only at hst
    split at hst
    · exact mx_s_i2l X hd (hK _ _ _ _ hu hst)
    · exact hst.elim
  case l2i =>
    have hln := eq_of_beq hln
    subst hln
    unfold mx_step at hst
    dsimp only at hst
    split at hst
    · exact mx_s_l2i X hd (hK _ _ _ _ hu hst)
    · exact hst.elim
  case i2b =>
    have hln := eq_of_beq hln
    subst hln
    unfold mx_step at hst
    dsimp only at hst
    split at hst
    · exact mx_s_i2b X hd (hK _ _ _ _ hu hst)
    · exact hst.elim
  case i2s =>
    have hln := eq_of_beq hln
    subst hln
    unfold mx_step at hst
    dsimp only at hst
    split at hst
    · exact mx_s_i2s X hd (hK _ _ _ _ hu hst)
    · exact hst.elim
  case i2c =>
    have hln := eq_of_beq hln
    subst hln
    unfold mx_step at hst
    dsimp only at hst
    split at hst
    · exact mx_s_i2c X hd (hK _ _ _ _ hu hst)
    · exact hst.elim
  case lcmp =>
    have hln := eq_of_beq hln
    subst hln
    unfold mx_step at hst
    dsimp only at hst
    split at hst
    · exact mx_s_lcmp X hd (hK _ _ _ _ hu hst)
    · exact hst.elim
  case idiv =>
    have hln := eq_of_beq hln
    subst hln
    unfold mx_step at hst
    dsimp only at hst
    split at hst
    · exact mx_s_idiv X hd hst.1 (hK _ _ _ _ hu hst.2)
    · exact hst.elim
  case irem =>
    have hln := eq_of_beq hln
    subst hln
    unfold mx_step at hst
    dsimp only at hst
    split at hst
    · exact mx_s_irem X hd hst.1 (hK _ _ _ _ hu hst.2)
    · exact hst.elim
  case ldiv =>
    have hln := eq_of_beq hln
    subst hln
    unfold mx_step at hst
    dsimp only at hst
    split at hst
    · exact mx_s_ldiv X hd hst.1 (hK _ _ _ _ hu hst.2)
    · exact hst.elim
  case lrem =>
    have hln := eq_of_beq hln
    subst hln
    unfold mx_step at hst
    dsimp only at hst
    split at hst
    · exact mx_s_lrem X hd hst.1 (hK _ _ _ _ hu hst.2)
    · exact hst.elim
  case dup =>
    have hln := eq_of_beq hln
    subst hln
    unfold mx_step at hst
    dsimp only at hst
    split at hst
    · exact hst.elim
    · next v st9 hne =>
      refine mx_s_dup X hd ?_ (hK _ _ _ _ hu hst)
      unfold mx_cat
      split
      · next n => exact (hne n rfl).elim
      · rfl
    · exact hst.elim
  case pop =>
    have hln := eq_of_beq hln
    subst hln
    unfold mx_step at hst
    dsimp only at hst
    split at hst
    · exact hst.elim
    · next v st9 hne =>
      refine mx_s_pop X hd ?_ (hK _ _ _ _ hu hst)
      unfold mx_cat
      split
      · next n => exact (hne n rfl).elim
      · rfl
    · exact hst.elim
  case pop2 =>
    have hln := eq_of_beq hln
    subst hln
    unfold mx_step at hst
    dsimp only at hst
    split at hst
    · exact mx_s_pop2 X hd (hK _ _ _ _ hu hst)
    · exact hst.elim
  case dup2 =>
    have hln := eq_of_beq hln
    subst hln
    unfold mx_step at hst
    dsimp only at hst
    split at hst
    · exact mx_s_dup2_2 X hd (hK _ _ _ _ hu hst)
    · exact hst.elim
    · next v w st9 hne1 hne2 =>
      refine mx_s_dup2_11 X hd ?_ ?_ (hK _ _ _ _ hu hst)
      · unfold mx_cat
        split
        · next n => exact (hne1 n rfl).elim
        · rfl
      · unfold mx_cat
        split
        · next n => exact (hne2 n rfl).elim
        · rfl
    · exact hst.elim
  case ifCond cd off =>
    have hln := eq_of_beq hln
    subst hln
    unfold mx_step at hst
    unfold mx_okI at hi
    dsimp only at hst hi
    split at hst
    · next t _ =>
      have ht := of_decide_eq_true hi
      cases cd
      case eq => exact mx_s_if_eq X hd ht (fun z => hJ _ _ _ _ _ hu (hst.1 z)) (fun z => hK _ _ _ _ hu (hst.2 z))
      case ne => exact mx_s_if_ne X hd ht (fun z => hJ _ _ _ _ _ hu (hst.1 z)) (fun z => hK _ _ _ _ hu (hst.2 z))
      case lt => exact mx_s_if_lt X hd ht (fun z => hJ _ _ _ _ _ hu (hst.1 z)) (fun z => hK _ _ _ _ hu (hst.2 z))
      case ge => exact mx_s_if_ge X hd ht (fun z => hJ _ _ _ _ _ hu (hst.1 z)) (fun z => hK _ _ _ _ hu (hst.2 z))
      case gt => exact mx_s_if_gt X hd ht (fun z => hJ _ _ _ _ _ hu (hst.1 z)) (fun z => hK _ _ _ _ hu (hst.2 z))
      case le => exact mx_s_if_le X hd ht (fun z => hJ _ _ _ _ _ hu (hst.1 z)) (fun z => hK _ _ _ _ hu (hst.2 z))
    · exact hst.elim
  case if_icmp cd off =>
    have hln := eq_of_beq hln
    subst hln
    unfold mx_step at hst
    unfold mx_okI at hi
    dsimp only at hst hi
    split at hst
    · next t _ =>
      have ht := of_decide_eq_true hi
      cases cd
      case eq => exact mx_s_icmp_eq X hd ht (fun z => hJ _ _ _ _ _ hu (hst.1 z)) (fun z => hK _ _ _ _ hu (hst.2 z))
      case ne => exact mx_s_icmp_ne X hd ht (fun z => hJ _ _ _ _ _ hu (hst.1 z)) (fun z => hK _ _ _ _ hu (hst.2 z))
      case lt => exact mx_s_icmp_lt X hd ht (fun z => hJ _ _ _ _ _ hu (hst.1 z)) (fun z => hK _ _ _ _ hu (hst.2 z))
      case ge => exact mx_s_icmp_ge X hd ht (fun z => hJ _ _ _ _ _ hu (hst.1 z)) (fun z => hK _ _ _ _ hu (hst.2 z))
      case gt => exact mx_s_icmp_gt X hd ht (fun z => hJ _ _ _ _ _ hu (hst.1 z)) (fun z => hK _ _ _ _ hu (hst.2 z))
      case le => exact mx_s_icmp_le X hd ht (fun z => hJ _ _ _ _ _ hu (hst.1 z)) (fun z => hK _ _ _ _ hu (hst.2 z))
    · exact hst.elim
  case goto off =>
    have hln := eq_of_beq hln
    subst hln
    unfold mx_step at hst
    unfold mx_okI at hi
    dsimp only at hst hi
    split at hst
    · exact mx_s_goto X hd (of_decide_eq_true hi) (hJ _ _ _ _ _ hu hst)
    · exact hst.elim
  case tableswitch df lo hi9 offs =>
    unfold mx_step at hst
    unfold mx_okI at hi
    dsimp only at hst hi
    split at hst
    · simp only [Bool.and_eq_true, decide_eq_true_eq, List.all_eq_true, List.mem_range] at hi
      refine mx_s_tsw X hd hi.1 (fun i hi2 => ?_) (fun z => hJ _ _ _ _ _ hu (hst.1 z)) (fun z => hJ _ _ _ _ _ hu (hst.2 z))
      have h9 := hi.2 i (by omega)
      split at h9
      · next off e9 => exact ⟨off, e9, of_decide_eq_true h9⟩
      · cases h9
    · exact hst.elim
  case lookupswitch df ps =>
    unfold mx_step at hst
    unfold mx_okI at hi
    dsimp only at hst hi
    split at hst
    · simp only [Bool.and_eq_true, decide_eq_true_eq, List.all_eq_true, List.mem_range] at hi
      refine mx_s_lsw X hd ?_ hi.1.1 (fun k q hq => ?_) (fun z => hJ _ _ _ _ _ hu (hst.1 z)) (fun k q hq z => hJ _ _ _ _ _ hu (hst.2 k q hq z))
      · rw [List.all_eq_true]
        intro x hx
        exact decide_eq_true (hi.1.2 x hx)
      · have h9 := hi.2 k (List.getElem?_eq_some_iff.mp hq).1
        simp only [hq] at h9
        exact of_decide_eq_true h9
    · exact hst.elim
  case getfield i =>
    have hln := eq_of_beq hln
    subst hln
    unfold mx_step at hst
    unfold mx_okI at hi
    dsimp only at hst hi
    split at hi
    · exact hst.elim
    · next f ch j r9 =>
      replace hst : (match (generalizing := false) st with
          | .inr (.inr (.inr q)) :: st => (match Nat.ble 10 q && Nat.ble q 36 with
            | true => (match (generalizing := false) f with
              | 0 => K L (mx_S (q + 90) :: st) h u
              | _ => K L (mx_I 0 :: st) h u)
            | false => False)
          | _ => False) := hst
      split at hst
      · next q st9 =>
        split at hst
        · next hq =>
          split at hi
          · exact mx_s_getSv X hq (mx_inB_of hi) hd (hK _ _ _ _ hu hst)
          · exact mx_s_getSc X hq (mx_inB_of hi) hd (hK _ _ _ _ hu hst)
          · cases hi
        · exact hst.elim
      · exact hst.elim
    · next ci k t ch j r9 hn9 =>
      obtain ⟨C9, T9, N9, hc, hk, hw, htg⟩ := mx_okF_of hi
      replace hst : (match (generalizing := false) st with
          | .inr (.inr (.inl (some q))) :: st => (match h.1[q]? with
            | some (.inl (c, rf)) => c = ci ∧ (match (generalizing := false) t with
              | 3 => (match rf.getD k none with
                | some r => K L (mx_R r :: st) h u
                | none => False)
              | t => K L (mx_tag t (h.2 q k) :: st) h u)
            | _ => False)
          | _ => False) := by
        split at hst
        · next e8 =>
          injection e8 with e1 e8
          subst e1
          exact absurd (show (none : Option vw_C) = some (C9, T9, N9) from hc) (fun z => nomatch z)
        · next e8 =>
          injection e8 with e1 e8
          injection e8 with e2 e8
          injection e8 with e3 e8
          subst e1; subst e2; subst e3
          exact hst
        · exact hst.elim
      split at hst
      · split at hst
        · next cc9 rf e9 =>
          obtain ⟨hcc, hst⟩ := hst
          subst hcc
          split at hst
          · split at hst
            · next r e7 => exact mx_s_getR X hc hk hw e9 htg e7 hd (hK _ _ _ _ hu hst)
            · exact hst.elim
          · next hne =>
            subst htg
            exact mx_s_get X hc hk hw e9 (fun z => hne z) hd (hK _ _ _ _ hu hst)
        · exact hst.elim
      · exact hst.elim
    · cases hi
  case putfield i =>
    have hln := eq_of_beq hln
    subst hln
    unfold mx_step at hst
    unfold mx_okI at hi
    dsimp only at hst hi
    split at hi
    · exact hst.elim
    · next ci k t ch j r8 =>
      rw [Bool.and_eq_true] at hi
      obtain ⟨C9, T9, N9, hc, hk, hw, htg⟩ := mx_okF_of hi.1
      have hi2 := hi.2
      unfold mx_okW at hi2
      simp only [hc] at hi2
      split at hst
      · next ci1 k1 r7 e8 =>
        injection e8 with e1 e8
        injection e8 with e2 e8
        injection e8 with e3 e8
        subst e1; subst e2; subst e3
        simp only [Bool.and_eq_true, decide_eq_true_eq] at hi2
        split at hst
        · split at hst
          · next c9 rf e9 =>
            obtain ⟨hcc, hst⟩ := hst
            subst hcc
            exact mx_s_putR X hc hk hw hi2.1.1 (hini hi2.1.2) hi2.2 e9 htg hd (hK _ _ _ _ hu hst)
          · exact hst.elim
        · exact hst.elim
      · next ci1 k1 r7 e8 =>
        injection e8 with e1 e8
        injection e8 with e2 e8
        injection e8 with e3 e8
        subst e1; subst e2; subst e3
        simp only [Bool.and_eq_true, decide_eq_true_eq, Bool.not_eq_true'] at hi2
        split at hst
        · split at hst
          · next c9 rf e9 =>
            obtain ⟨hcc, hst⟩ := hst
            subst hcc
            exact mx_s_putJ X hc hk hw hi2.2 e9 hi2.1 hd (hK _ _ _ _ hu hst)
          · exact hst.elim
        · exact hst.elim
      · next ci1 k1 r7 e8 =>
        injection e8 with e1 e8
        injection e8 with e2 e8
        injection e8 with e3 e8
        subst e1; subst e2; subst e3
        simp only [Bool.and_eq_true, decide_eq_true_eq, Bool.not_eq_true'] at hi2
        split at hst
        · split at hst
          · next c9 rf e9 =>
            obtain ⟨hcc, hn, hst⟩ := hst
            subst hcc
            exact mx_s_putZ X hc hk hw hi2.2 e9 hi2.1 hn hd (hK _ _ _ _ hu hst)
          · exact hst.elim
        · exact hst.elim
      · next ci1 k1 t1 r7 n3 n1 n2 e8 =>
        injection e8 with e1 e8
        injection e8 with e2 e8
        injection e8 with e3 e8
        subst e1; subst e2; subst e3
        split at hi2
        · simp only [Bool.and_eq_true, decide_eq_true_eq, Bool.not_eq_true'] at hi2
          split at hst
          · split at hst
            · next c9 rf e9 =>
              obtain ⟨hcc, hst⟩ := hst
              subst hcc
              exact mx_s_putI X hc hk hw hi2.2 e9 hi2.1 hd (hK _ _ _ _ hu hst)
            · exact hst.elim
          · exact hst.elim
        · exact absurd rfl (by assumption)
        · exact absurd rfl (by assumption)
        · exact absurd rfl (by assumption)
        · cases hi2
      · exact hst.elim
    · cases hi
  case laload =>
    have hln := eq_of_beq hln
    subst hln
    unfold mx_step at hst
    dsimp only at hst
    split at hst
    · split at hst
      · next n e9 => exact mx_s_lald X e9 hst.1 hd (hK _ _ _ _ hu hst.2)
      · exact hst.elim
    · exact hst.elim
  case baload =>
    have hln := eq_of_beq hln
    subst hln
    unfold mx_step at hst
    dsimp only at hst
    split at hst
    · split at hst
      · next n e9 => exact mx_s_bald X e9 hst.1 hd (hK _ _ _ _ hu hst.2)
      · exact hst.elim
    · split at hst
      · next n f e9 => exact mx_s_baldS X e9 hst.1 hd (hK _ _ _ _ hu hst.2)
      · exact hst.elim
    · exact hst.elim
  case iaload =>
    have hln := eq_of_beq hln
    subst hln
    unfold mx_step at hst
    dsimp only at hst
    split at hst
    · split at hst
      · next n e9 => exact mx_s_iald X e9 hst.1 hd (hK _ _ _ _ hu hst.2)
      · exact hst.elim
    · split at hst
      · next n f e9 => exact mx_s_ialdS X e9 hst.1 hd (hK _ _ _ _ hu hst.2)
      · exact hst.elim
    · exact hst.elim
  case iastore =>
    have hln := eq_of_beq hln
    subst hln
    unfold mx_step at hst
    dsimp only at hst
    split at hst
    · split at hst
      · next n e9 => exact mx_s_iast X e9 hst.1 hd (hK _ _ _ _ hu hst.2)
      · exact hst.elim
    · exact hst.elim
  case lastore =>
    have hln := eq_of_beq hln
    subst hln
    unfold mx_step at hst
    dsimp only at hst
    split at hst
    · split at hst
      · next n e9 => exact mx_s_last X e9 hst.1 hd (hK _ _ _ _ hu hst.2)
      · exact hst.elim
    · exact hst.elim
  case bastore =>
    have hln := eq_of_beq hln
    subst hln
    unfold mx_step at hst
    dsimp only at hst
    split at hst
    · split at hst
      · next n e9 => exact mx_s_bast X e9 hst.1 hst.2.1 hd (hK _ _ _ _ hu hst.2.2)
      · exact hst.elim
    · exact hst.elim
  case arraylength =>
    have hln := eq_of_beq hln
    subst hln
    unfold mx_step at hst
    dsimp only at hst
    split at hst
    · split at hst
      · next t n e9 => exact mx_s_alen X e9 hd (hK _ _ _ _ hu hst)
      · exact hst.elim
    · split at hst
      · next n f e9 => exact mx_s_alenS X e9 hd (hK _ _ _ _ hu hst)
      · split at hst
        · next n f e8 => exact mx_s_alenT X e8 hd (hK _ _ _ _ hu hst)
        · exact hst.elim
    · exact hst.elim
  case newarray a =>
    have hln := eq_of_beq hln
    subst hln
    unfold mx_step at hst
    unfold mx_okI at hi
    dsimp only at hst hi
    split at hst
    · next n st9 t r9 =>
      split at hi
      · next t1 ch j r8 e8 =>
        injection e8 with e1 e8
        subst e1
        rw [Bool.and_eq_true] at hi
        refine mx_s_newa X (t := t) ?_ (mx_inB_of hi.1) hst.1 hst.2.1 hst.2.2.1 hst.2.2.2.1 hd (hK _ _ _ _ ⟨hst.2.2.1, hst.2.2.2.1⟩ hst.2.2.2.2)
        have h9 := hi.2
        split at h9
        · exact Or.inl ⟨rfl, rfl⟩
        · exact Or.inr (Or.inl ⟨rfl, rfl⟩)
        · exact Or.inr (Or.inr ⟨rfl, rfl⟩)
        · cases h9
      · cases hi
    · exact hst.elim
  case new i =>
    have hln := eq_of_beq hln
    subst hln
    unfold mx_step at hst
    unfold mx_okI at hi
    dsimp only at hst hi
    split at hi
    · exact hst.elim
    · next ci ns c1 j1 c2 j2 c3 j3 r8 =>
      try dsimp only at hst
      split at hi
      · next C9 T9 N9 hc =>
        simp only [Bool.and_eq_true, decide_eq_true_eq, List.all_eq_true, List.mem_range, Bool.or_eq_true] at hi
        obtain ⟨⟨⟨⟨hn, h1⟩, h2⟩, h3⟩, h4⟩ := hi
        subst hn
        exact mx_s_new X hc (mx_inB_of h1) (mx_inB_of h2) (mx_inB_of h3) (fun k hk => by rcases h4 k hk with ((z | z) | z) | z <;> simp [z]) hst.1 hst.2.1 hd (hK _ _ _ _ ⟨hst.1, hst.2.1⟩ hst.2.2)
      · cases hi
    · next x c1 j1 c2 j2 r8 =>
      try dsimp only at hst
      simp only [Bool.and_eq_true, decide_eq_true_eq] at hi
      obtain ⟨⟨⟨⟨⟨⟨hx, ho⟩, h1⟩, h2⟩, h3⟩, h4⟩, h5⟩ := hi
      exact yT pc L st x i h u ho hx hst.1 (mx_inB_of h1) (mx_inB_of h2) ⟨hst.2.1, hst.2.2.1⟩ hst.2.2.2.1 hst.2.2.2.2 hd h3 h4 h5
    · cases hi
  case ldc i =>
    have hln := eq_of_beq hln
    subst hln
    unfold mx_step at hst
    unfold mx_okI at hi
    dsimp only at hst hi
    split at hi
    · exact hst.elim
    · next k r9 =>
      have hst : K L (mx_S k :: st) h u := hst
      unfold mx_okS at hi
      simp only [Bool.and_eq_true, decide_eq_true_eq] at hi
      obtain ⟨⟨⟨h1, h2⟩, h3⟩, h4⟩ := hi
      obtain ⟨k, rfl⟩ : ∃ k9, k = 10 + k9 := ⟨k - 10, by omega⟩
      rw [show 10 + k - 10 = k by omega] at h3 h4
      exact mx_s_ldcS X (by omega) ⟨h3, h4⟩ hd (hK _ _ _ _ hu hst)
    · try dsimp only at hst
      exact mx_s_ldc X (mx_inB_of hi) hd (hK _ _ _ _ hu hst)
    · cases hi
  case ldc_w i =>
    have hln := eq_of_beq hln
    subst hln
    unfold mx_step at hst
    unfold mx_okI at hi
    dsimp only at hst hi
    split at hi
    · exact hst.elim
    · next k r9 =>
      have hst : K L (mx_S k :: st) h u := hst
      unfold mx_okS at hi
      simp only [Bool.and_eq_true, decide_eq_true_eq] at hi
      obtain ⟨⟨⟨h1, h2⟩, h3⟩, h4⟩ := hi
      obtain ⟨k, rfl⟩ : ∃ k9, k = 10 + k9 := ⟨k - 10, by omega⟩
      rw [show 10 + k - 10 = k by omega] at h3 h4
      exact mx_s_ldcSW X (by omega) ⟨h3, h4⟩ hd (hK _ _ _ _ hu hst)
    · try dsimp only at hst
      exact mx_s_ldcw X (mx_inB_of hi) hd (hK _ _ _ _ hu hst)
    · cases hi
  case ldc2_w i =>
    have hln := eq_of_beq hln
    subst hln
    unfold mx_step at hst
    unfold mx_okI at hi
    dsimp only at hst hi
    split at hi
    · exact hst.elim
    · try dsimp only at hst
      exact mx_s_ldc2 X (mx_inB_of hi) hd (hK _ _ _ _ hu hst)
    · cases hi
  case getstatic i =>
    have hln := eq_of_beq hln
    subst hln
    unfold mx_step at hst
    unfold mx_okI at hi
    dsimp only at hst hi
    split at hi
    · exact hst.elim
    · split at hi
      · exact mx_s_gets X (Or.inl ⟨rfl, rfl⟩) (mx_tch_in _ (List.mem_of_getElem? (of_decide_eq_true hi))) hd (hK _ _ _ _ hu (show K L (mx_S 1 :: st) h u from hst))
      · exact mx_s_gets X (Or.inr (Or.inl ⟨rfl, rfl⟩)) (mx_tch_in _ (List.mem_of_getElem? (of_decide_eq_true hi))) hd (hK _ _ _ _ hu (show K L (mx_S 2 :: st) h u from hst))
      · exact mx_s_gets X (Or.inr (Or.inr ⟨rfl, rfl⟩)) (mx_tch_in _ (List.mem_of_getElem? (of_decide_eq_true hi))) hd (hK _ _ _ _ hu (show K L (mx_S 3 :: st) h u from hst))
      · exact mx_s_getsZ X (mx_inB_of hi) hd (hK _ _ _ _ hu (show K L (mx_I 1 :: st) h u from hst))
      · have hst : K L (mx_Z :: st) h u ∧ K L (mx_S 200 :: st) h u := hst
        exact mx_s_getsF X (mx_inB_of hi) hd (hK _ _ _ _ hu hst.1) (hK _ _ _ _ hu hst.2)
      · cases hi
    · cases hi
  case invokestatic i =>
    have hln := eq_of_beq hln
    subst hln
    unfold mx_step at hst
    unfold mx_okI at hi
    dsimp only at hst hi
    split at hi
    · exact hst.elim
    · next t c1 j1 c2 j2 c3 j3 c4 j4 r8 =>
      replace hst : (match (generalizing := false) st with
          | .inl n :: .inl dp :: .inr (.inr (.inl (some b))) :: .inl sp :: .inr (.inr (.inl (some a))) :: st => (match h.1[a]?, h.1[b]? with
            | some (.inr (ta, na)), some (.inr (tb, nb)) => ta = t ∧ tb = t ∧ 0 ≤ w32 sp ∧ 0 ≤ w32 dp ∧ 0 ≤ w32 n ∧ w32 sp + w32 n ≤ (na : Int) ∧ w32 dp + w32 n ≤ (nb : Int) ∧ mx_wt st ≤ 8 ∧ K L st (h.1, mx_cpy h.2 a b (mx_at sp) (mx_at dp) (mx_at n)) u
            | _, _ => False)
          | _ => False) := hst
      simp only [Bool.and_eq_true, decide_eq_true_eq] at hi
      obtain ⟨⟨⟨⟨h1, h2⟩, h3⟩, h4⟩, h5⟩ := hi
      split at hst
      · split at hst
        · next ta na tb nb ea eb =>
          obtain ⟨rfl, q2, q3, q4, q5, q6, q7, q8, hst⟩ := hst
          subst q2
          exact mx_s_copy X (by omega) ea eb q3 q4 q5 q6 q7 q8 (mx_inB_of h2) (mx_inB_of h3) (mx_inB_of h4) (mx_inB_of h5) hd (hK _ _ _ _ hu hst)
        · exact hst.elim
      · exact hst.elim
    · next k n ch j r8 =>
      replace hst : (match mx_tk n [] st with
        | some (as, rest) => mx_go F C pc L K J Q k as rest h u
        | none => False) := hst
      split at hi
      · next t ht =>
        simp only [Bool.and_eq_true, decide_eq_true_eq] at hi
        obtain ⟨⟨⟨⟨hk, hn⟩, hmc⟩, hms⟩, hcw⟩ := hi
        split at hst
        · next as rest e9 =>
          unfold mx_go at hst
          split at hst
          · next hb =>
            obtain ⟨h1, h2⟩ := yC k t as h _ ht hst
            have kr : ∀ r h', mx_aft F pc L u (fun r h => K L (r.toList ++ rest) h u) J Q (.inl r) h' → mx_G p l e R s m args below meth c nL A D cy sp al0 Qe (pc + 3) L (r.toList ++ rest) h' (u.1 + mx_mc t, u.2 + mx_ms t) := by
              intro r h' z
              rw [hmc, hms]
              exact hK _ _ _ _ hu z
            have kx : ∀ x h', mx_aft F pc L u (fun r h => K L (r.toList ++ rest) h u) J Q (.inr x) h' → mx_GX p l e R s m args below meth c nL A D cy sp al0 Qe pc L x h' (u.1 + mx_mc t, u.2 + mx_ms t) := by
              intro x h' z
              rw [hmc, hms]
              exact go k as rest u hu x h' z
            rw [← hn] at e9
            rcases mx_okC_of hcw with hw | ⟨hb2, host, hw⟩
            · by_cases hh : mx_mh t = []
              · exact mx_s_callS X h1 hk hh hw h2 yF yR e9 (mx_ble hb) (by rw [hmc]; exact hu.1) (by rw [hms]; exact hu.2) hd kr kx
              · exact mx_s_callSX X h1 hk hh hw h2 yF yR e9 (mx_ble hb) (by rw [hmc]; exact hu.1) (by rw [hms]; exact hu.2) hd kr kx
            · exact mx_s_callSN X h1 hk (of_decide_eq_true hb2) hw h2 yF yR e9 (mx_ble hb) (by rw [hmc]; exact hu.1) (by rw [hms]; exact hu.2) hd kr kx
          · exact hst.elim
        · exact hst.elim
      · cases hi
    · next k n mc ms ch j r8 =>
      replace hst : (match mx_tk n [] st with
        | some (as, rest) => u.1 + mc ≤ F.2.2.1 ∧ u.2 + ms ≤ F.2.2.2 ∧ mx_go F C pc L K J Q k as rest h (u.1 + mc, u.2 + ms)
        | none => False) := hst
      split at hi
      · next t ht =>
        simp only [Bool.and_eq_true, decide_eq_true_eq] at hi
        obtain ⟨⟨⟨⟨hk, hn⟩, hmc⟩, hms⟩, hcw⟩ := hi
        subst hmc; subst hms
        split at hst
        · next as rest e9 =>
          obtain ⟨u1, u2, hst⟩ := hst
          unfold mx_go at hst
          split at hst
          · next hb =>
            obtain ⟨h1, h2⟩ := yC k t as h _ ht hst
            rw [← hn] at e9
            rcases mx_okC_of hcw with hw | ⟨hb2, host, hw⟩
            · by_cases hh : mx_mh t = []
              · exact mx_s_callS X h1 hk hh hw h2 yF yR e9 (mx_ble hb) u1 u2 hd (fun r h' z => hK _ _ _ _ ⟨u1, u2⟩ z) (fun x h' z => go k as rest _ ⟨u1, u2⟩ x h' z)
              · exact mx_s_callSX X h1 hk hh hw h2 yF yR e9 (mx_ble hb) u1 u2 hd (fun r h' z => hK _ _ _ _ ⟨u1, u2⟩ z) (fun x h' z => go k as rest _ ⟨u1, u2⟩ x h' z)
            · exact mx_s_callSN X h1 hk (of_decide_eq_true hb2) hw h2 yF yR e9 (mx_ble hb) u1 u2 hd (fun r h' z => hK _ _ _ _ ⟨u1, u2⟩ z) (fun x h' z => go k as rest _ ⟨u1, u2⟩ x h' z)
          · exact hst.elim
        · exact hst.elim
      · cases hi
    · cases hi
  case invokevirtual i =>
    have hln := eq_of_beq hln
    subst hln
    unfold mx_step at hst
    unfold mx_okI at hi
    dsimp only at hst hi
    split at hi
    · exact hst.elim
    · next k n ch j r8 =>
      replace hst : (match mx_tk n [] st with
        | some (as, .inr (.inr (.inr q)) :: rest) => (match Nat.ble 10 q && Nat.ble q 36 with
          | true => mx_go F C pc L K J Q k (mx_S q :: as) rest h u
          | false => False)
        | _ => False) := hst
      split at hi
      · next t ht =>
        simp only [Bool.and_eq_true, decide_eq_true_eq] at hi
        obtain ⟨⟨⟨⟨⟨hk, hn⟩, hmc⟩, hms⟩, hcl⟩, hw⟩ := hi
        split at hst
        · next as q rest e9 =>
          split at hst
          · next hq =>
            unfold mx_go at hst
            split at hst
            · next hb =>
              obtain ⟨h1, h2⟩ := yC k t _ h _ ht hst
              rw [← hn] at e9
              refine mx_s_callVS X h1 hk hcl hq (mx_inB_of hw) h2 yF yR e9 (mx_ble hb) (by rw [hmc]; exact hu.1) (by rw [hms]; exact hu.2) hd (fun r h' z => ?_) (fun x h' z => ?_)
              · rw [hmc, hms]
                exact hK _ _ _ _ hu z
              · rw [hmc, hms]
                exact go k as rest u hu x h' z
            · exact hst.elim
          · exact hst.elim
        · exact hst.elim
      · cases hi
    · next k n ci ch j r8 =>
      replace hst : (match mx_tk n [] st with
        | some (as, .inr (.inr (.inl (some q))) :: rest) => (match h.1[q]? with
          | some (.inl (c, _)) => c = ci ∧ mx_go F C pc L K J Q k (mx_R q :: as) rest h u
          | _ => False)
        | _ => False) := hst
      split at hi
      · next t C9 T9 N9 ht hc =>
        simp only [Bool.and_eq_true, decide_eq_true_eq] at hi
        obtain ⟨⟨⟨⟨⟨hk, hn⟩, hmc⟩, hms⟩, hcl⟩, hw⟩ := hi
        split at hst
        · next as q rest e9 =>
          split at hst
          · next c9 rf e7 =>
            obtain ⟨hcc, hst⟩ := hst
            subst hcc
            unfold mx_go at hst
            split at hst
            · next hb =>
              obtain ⟨h1, h2⟩ := yC k t _ h _ ht hst
              rw [← hn] at e9
              refine mx_s_callV X h1 hk hc hcl e7 (mx_inB_of hw) h2 yF yR e9 (mx_ble hb) (by rw [hmc]; exact hu.1) (by rw [hms]; exact hu.2) hd (fun r h' z => ?_) (fun x h' z => ?_)
              · rw [hmc, hms]
                exact hK _ _ _ _ hu z
              · rw [hmc, hms]
                exact go k as rest u hu x h' z
            · exact hst.elim
          · exact hst.elim
        · exact hst.elim
      · cases hi
    · next k n ci mc ms ch j r8 =>
      replace hst : (match mx_tk n [] st with
        | some (as, .inr (.inr (.inl (some q))) :: rest) => (match h.1[q]? with
          | some (.inl (c, _)) => c = ci ∧ u.1 + mc ≤ F.2.2.1 ∧ u.2 + ms ≤ F.2.2.2 ∧ mx_go F C pc L K J Q k (mx_R q :: as) rest h (u.1 + mc, u.2 + ms)
          | _ => False)
        | _ => False) := hst
      split at hi
      · next t C9 T9 N9 ht hc =>
        simp only [Bool.and_eq_true, decide_eq_true_eq] at hi
        obtain ⟨⟨⟨⟨⟨hk, hn⟩, hmc⟩, hms⟩, hcl⟩, hw⟩ := hi
        subst hmc; subst hms
        split at hst
        · next as q rest e9 =>
          split at hst
          · next c9 rf e7 =>
            obtain ⟨hcc, u1, u2, hst⟩ := hst
            subst hcc
            unfold mx_go at hst
            split at hst
            · next hb =>
              obtain ⟨h1, h2⟩ := yC k t _ h _ ht hst
              rw [← hn] at e9
              exact mx_s_callV X h1 hk hc hcl e7 (mx_inB_of hw) h2 yF yR e9 (mx_ble hb) u1 u2 hd (fun r h' z => hK _ _ _ _ ⟨u1, u2⟩ z) (fun x h' z => go k as rest _ ⟨u1, u2⟩ x h' z)
            · exact hst.elim
          · exact hst.elim
        · exact hst.elim
      · cases hi
    · cases hi
  case invokespecial i =>
    have hln := eq_of_beq hln
    subst hln
    unfold mx_step at hst
    unfold mx_okI at hi
    dsimp only at hst hi
    split at hi
    · exact hst.elim
    · next k n ch j r8 =>
      replace hst : (match mx_tk n [] st with
        | some (as, .inr (.inr (.inl (some q))) :: rest) => mx_go F C pc L K J Q k (mx_R q :: as) rest h u
        | _ => False) := hst
      split at hi
      · next t ht =>
        simp only [Bool.and_eq_true, decide_eq_true_eq] at hi
        obtain ⟨⟨⟨⟨hk, hn⟩, hmc⟩, hms⟩, hcw⟩ := hi
        split at hst
        · next as q rest e9 =>
          unfold mx_go at hst
          split at hst
          · next hb =>
            obtain ⟨h1, h2⟩ := yC k t _ h _ ht hst
            rw [← hn] at e9
            have hw : Cond.methodLink own i (mx_my t) ∈ mx_Ts ∨ ∃ host, Cond.methodLinkNest own i (mx_my t) host ∈ lw_tbl := by
              rcases mx_okC_of hcw with hw | ⟨-, hw⟩
              · exact Or.inl hw
              · exact Or.inr hw
            refine mx_s_callI X h1 hk hw h2 yF yR e9 (mx_ble hb) (by rw [hmc]; exact hu.1) (by rw [hms]; exact hu.2) hd (fun r h' z => ?_) (fun x h' z => ?_)
            · rw [hmc, hms]
              exact hK _ _ _ _ hu z
            · rw [hmc, hms]
              exact go k as rest u hu x h' z
          · exact hst.elim
        · exact hst.elim
      · cases hi
    · next k n mc ms ch j r8 =>
      replace hst : (match mx_tk n [] st with
        | some (as, .inr (.inr (.inl (some q))) :: rest) => u.1 + mc ≤ F.2.2.1 ∧ u.2 + ms ≤ F.2.2.2 ∧ mx_go F C pc L K J Q k (mx_R q :: as) rest h (u.1 + mc, u.2 + ms)
        | _ => False) := hst
      split at hi
      · next t ht =>
        simp only [Bool.and_eq_true, decide_eq_true_eq] at hi
        obtain ⟨⟨⟨⟨hk, hn⟩, hmc⟩, hms⟩, hcw⟩ := hi
        subst hmc; subst hms
        split at hst
        · next as q rest e9 =>
          obtain ⟨u1, u2, hst⟩ := hst
          unfold mx_go at hst
          split at hst
          · next hb =>
            obtain ⟨h1, h2⟩ := yC k t _ h _ ht hst
            rw [← hn] at e9
            have hw : Cond.methodLink own i (mx_my t) ∈ mx_Ts ∨ ∃ host, Cond.methodLinkNest own i (mx_my t) host ∈ lw_tbl := by
              rcases mx_okC_of hcw with hw | ⟨-, hw⟩
              · exact Or.inl hw
              · exact Or.inr hw
            exact mx_s_callI X h1 hk hw h2 yF yR e9 (mx_ble hb) u1 u2 hd (fun r h' z => hK _ _ _ _ ⟨u1, u2⟩ z) (fun x h' z => go k as rest _ ⟨u1, u2⟩ x h' z)
          · exact hst.elim
        · exact hst.elim
      · cases hi
    · next c1 j1 c2 j2 c3 j3 r8 =>
      replace hst : (match (generalizing := false) st with
        | .inr (.inr (.inl (some _))) :: st => (match Nat.ble (mx_wt st) 8 with
          | true => K L st h u
          | false => False)
        | _ => False) := hst
      simp only [Bool.and_eq_true] at hi
      split at hst
      · split at hst
        · next hb => exact mx_s_obj X (mx_inB_of hi.1.1) (mx_inB_of hi.1.2) (mx_inB_of hi.2) (mx_ble hb) hd (hK _ _ _ _ hu hst)
        · exact hst.elim
      · exact hst.elim
    · cases hi
  case ireturn =>
    have hln := eq_of_beq hln
    subst hln
    unfold mx_step at hst
    unfold mx_okI at hi
    dsimp only at hst hi
    split at hst
    · split at hi
      · exact yZ pc L _ h u (of_decide_eq_true hi) hst.1 hu hst.2 hd
      · exact yCh pc L _ h u (of_decide_eq_true hi) ⟨hst.1, hst.2.1⟩ hu hst.2.2 hd
      · exact yBy pc L _ h u (of_decide_eq_true hi) ⟨hst.1, hst.2.1⟩ hu hst.2.2 hd
      · next h2 h3 h4 =>
        split at hst
        · exact absurd rfl (h2 _)
        · exact absurd rfl (h3 _)
        · exact absurd rfl (h4 _)
        · exact yI pc L _ h u (of_decide_eq_true hi) hu hst hd
    · exact hst.elim
  case lreturn =>
    have hln := eq_of_beq hln
    subst hln
    unfold mx_step at hst
    dsimp only at hst
    split at hst
    · exact yJ pc L _ h u (of_decide_eq_true hi) hu hst hd
    · exact hst.elim
  case return_ =>
    have hln := eq_of_beq hln
    subst hln
    unfold mx_step at hst
    dsimp only at hst
    split at hst
    · exact yV pc L h u (of_decide_eq_true hi) hu hst hd
    · exact hst.elim
  all_goals exact (hst : False).elim
end MXD
