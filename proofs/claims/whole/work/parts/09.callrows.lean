/-! the rows of the calls -/
theorem mx_cw_code {t : mx_MT} (hh : mx_mh t = []) : mx_cw t = .code (mx_my t) (mx_mb t) (mx_ml t) (mx_mr t) := by
  unfold mx_cw
  rw [hh]
theorem mx_cw_with {t : mx_MT} (hh : mx_mh t ≠ []) : mx_cw t = .codeWith (mx_my t) (mx_mb t) (mx_ml t) (mx_mr t) (mx_mh t) := by
  unfold mx_cw
  split
  · next e => exact absurd e hh
  · rfl
theorem mx_mok.len {t : mx_MT} (ht : mx_mok t) : ∀ sig, parseMethodDescriptor (mx_my t).desc = some sig → mx_mn t = sig.parameters.length := by
  intro sig h
  have h2 := ht.2.2.2.2.1
  rw [h] at h2
  exact (Option.some.inj h2).symm
section MXC
variable {p : Program} {l : Launch} {e : Env} {R : Room} {s : State} {m : MethodId} {args : Array Value} {below : List Frame} {meth : Method} {c : Code} {cc : ByteArray} {nL : Nat} {own : String} {A : Nat → Prop} {D : va_G} {cy : Nat → ClassId} {sp : Nat → Nat} {F : mx_F} {al0 : List Nat} {Qe : State → Prop} {pc : Nat} {L : mx_L} {st : List mx_v} {h : mx_H} {u : Nat × Nat}
theorem mx_cb (X : mx_X p l s m args meth c R cc nL own A D cy sp F) {t : mx_MT} {d idx : Nat} (ht : mx_mok t) (hh : mx_mh t = []) (hR : d + 9 ≤ R.frames ∧ 64 * d + 264 ≤ R.locals) (hw : Cond.methodLink own idx (mx_my t) ∈ mx_Ts) : CallB R s args own idx (mx_my t) (mx_mb t) (mx_ml t) (mx_mr t) (mx_ws t) (mx_rm d t) (mx_mc t) (mx_ms t) (mx_mn t) := by
  have hc : Cond.code (mx_my t) (mx_mb t) (mx_ml t) (mx_mr t) ∈ mx_Ts := by rw [← mx_cw_code hh]; exact ht.1
  refine ⟨rfl, rfl, hR.1, ?_, mx_ws_at ht X.ts, List.mem_cons_of_mem _ hc, X.ts _ hc, X.ts _ ht.2.2.1, ht.2.2.2.1, ht.len, X.ts _ hw⟩
  have h1 := ht.2.2.2.2.2.1
  show 8 + (mx_ml t + 11) + (64 * d + 200) ≤ R.locals
  omega
theorem mx_stackW {vs : List Value} {rest : List mx_v} {al : List Nat} (hs : mx_rs al sp rest vs) (hw : mx_wt rest ≤ 8) {ls : Array Slot} {st0 : List Value} : 2 * (F0 m pc ls st0).monitorRoom + (vs.map fun v => v.category).sum ≤ 8 := by
  rw [hs.wt]
  show 2 * 0 + mx_wt rest ≤ 8
  omega
theorem mx_s_callS (X : mx_X p l s m args meth c R cc nL own A D cy sp F) {t : mx_MT} {d idx : Nat} {F1 : Nat → Option (Nat × (Nat → Int))} {as rest : List mx_v} {Q : mx_O → mx_H → Prop} (ht : mx_mok t) (hk : mx_mk t = 0) (hh : mx_mh t = []) (hw : Cond.methodLink own idx (mx_my t) ∈ mx_Ts) (hM : mx_M l D cy sp F1 d t as h Q) (hF : ∀ k x, F1 k = some x → F.1 k = some x) (hR : d + 9 ≤ R.frames ∧ 64 * d + 264 ≤ R.locals)
    (htk : mx_tk (mx_mn t) [] st = some (as, rest)) (hwt : mx_wt rest ≤ 8) (hu : u.1 + mx_mc t ≤ F.2.2.1) (hu2 : u.2 + mx_ms t ≤ F.2.2.2) (hd : decode cc pc = .ok (.invokestatic idx, 3))
    (kr : ∀ r h', Q (.inl r) h' → mx_G p l e R s m args below meth c nL A D cy sp al0 Qe (pc + 3) L (r.toList ++ rest) h' (u.1 + mx_mc t, u.2 + mx_ms t)) (kx : ∀ x h', Q (.inr x) h' → mx_GX p l e R s m args below meth c nL A D cy sp al0 Qe pc L x h' (u.1 + mx_mc t, u.2 + mx_ms t)) : mx_G p l e R s m args below meth c nL A D cy sp al0 Qe pc L st h u := by
  intro al H locs ls vs hr hl hs
  obtain ⟨ys, e1, e2, e3⟩ := mx_tk_spec htk
  subst e2
  obtain ⟨w1, w2, rfl, r1, r2⟩ := hs.split
  have hM' := hM al w1.reverse H.size hr.1.1 hr.2.1 hr.2.2.1 (by rw [e3, List.append_nil]; exact r1.rev)
  refine mx_after X hr hl r2 (a := w1.reverse.toArray) (vx_runS (Ts := mx_Ts) (As := w1.reverse) ⟨X.1, X.2.1, X.2.2.1, X.own, X.ts⟩ hM' ⟨mx_cb X ht hh hR hw, X.ts _ (ht.2.2.2.2.2.2.1 hk)⟩ ⟨mx_Pb_blind, fun U hU hW => ⟨rfl, mx_pre X hr hF hU hW⟩⟩ rfl ?_ hl.1 ?_ (mx_stackW r2 hwt) hd ⟨Nat.le_trans hu X.2.2.2.2.2.2.2.1, Nat.le_trans hu2 X.2.2.2.2.2.2.2.2.1⟩) kr kx
  · rw [List.length_reverse, r1.len, e1]
  · rw [List.reverse_reverse]
theorem mx_s_callSX (X : mx_X p l s m args meth c R cc nL own A D cy sp F) {t : mx_MT} {d idx : Nat} {F1 : Nat → Option (Nat × (Nat → Int))} {as rest : List mx_v} {Q : mx_O → mx_H → Prop} (ht : mx_mok t) (hk : mx_mk t = 0) (hh : mx_mh t ≠ []) (hw : Cond.methodLink own idx (mx_my t) ∈ mx_Ts) (hM : mx_M l D cy sp F1 d t as h Q) (hF : ∀ k x, F1 k = some x → F.1 k = some x) (hR : d + 9 ≤ R.frames ∧ 64 * d + 264 ≤ R.locals)
    (htk : mx_tk (mx_mn t) [] st = some (as, rest)) (hwt : mx_wt rest ≤ 8) (hu : u.1 + mx_mc t ≤ F.2.2.1) (hu2 : u.2 + mx_ms t ≤ F.2.2.2) (hd : decode cc pc = .ok (.invokestatic idx, 3))
    (kr : ∀ r h', Q (.inl r) h' → mx_G p l e R s m args below meth c nL A D cy sp al0 Qe (pc + 3) L (r.toList ++ rest) h' (u.1 + mx_mc t, u.2 + mx_ms t)) (kx : ∀ x h', Q (.inr x) h' → mx_GX p l e R s m args below meth c nL A D cy sp al0 Qe pc L x h' (u.1 + mx_mc t, u.2 + mx_ms t)) : mx_G p l e R s m args below meth c nL A D cy sp al0 Qe pc L st h u := by
  intro al H locs ls vs hr hl hs
  obtain ⟨ys, e1, e2, e3⟩ := mx_tk_spec htk
  subst e2
  obtain ⟨w1, w2, rfl, r1, r2⟩ := hs.split
  have hM' := hM al w1.reverse H.size hr.1.1 hr.2.1 hr.2.2.1 (by rw [e3, List.append_nil]; exact r1.rev)
  have hc : Cond.codeWith (mx_my t) (mx_mb t) (mx_ml t) (mx_mr t) (mx_mh t) ∈ mx_Ts := by rw [← mx_cw_with hh]; exact ht.1
  have h1 := ht.2.2.2.2.2.1
  refine mx_after X hr hl r2 (a := w1.reverse.toArray) (vx_runSX (Ts := mx_Ts) (As := w1.reverse) (hh := mx_mh t) ⟨X.1, X.2.1, X.2.2.1, X.own, X.ts⟩ hM' ⟨⟨rfl, rfl, hR.1, (show 8 + (mx_ml t + 11) + (64 * d + 200) ≤ R.locals by omega), mx_ws_at ht X.ts, List.mem_cons_of_mem _ hc⟩, X.ts _ hc, X.ts _ ht.2.2.1, ht.2.2.2.1, ht.len, X.ts _ hw, X.ts _ (ht.2.2.2.2.2.2.1 hk)⟩ ⟨mx_Pb_blind, fun U hU hW => ⟨rfl, mx_pre X hr hF hU hW⟩⟩ rfl ?_ hl.1 ?_ (mx_stackW r2 hwt) hd ⟨Nat.le_trans hu X.2.2.2.2.2.2.2.1, Nat.le_trans hu2 X.2.2.2.2.2.2.2.2.1⟩) kr kx
  · rw [List.length_reverse, r1.len, e1]
  · rw [List.reverse_reverse]
theorem mx_s_callV (X : mx_X p l s m args meth c R cc nL own A D cy sp F) {t : mx_MT} {d idx q ci N : Nat} {C : String} {T : u_T} {rf : List (Option Nat)} {F1 : Nat → Option (Nat × (Nat → Int))} {as rest : List mx_v} {Q : mx_O → mx_H → Prop} (ht : mx_mok t) (hk : mx_mk t = 1) (hc : vwCl[ci]? = some (C, T, N)) (hcl : (mx_my t).cls = C) (hq : h.1[q]? = some (.inl (ci, rf))) (hw : Cond.methodLink own idx (mx_my t) ∈ mx_Ts) (hM : mx_M l D cy sp F1 d t (mx_R q :: as) h Q) (hF : ∀ k x, F1 k = some x → F.1 k = some x) (hR : d + 9 ≤ R.frames ∧ 64 * d + 264 ≤ R.locals)
    (htk : mx_tk (mx_mn t) [] st = some (as, mx_R q :: rest)) (hwt : mx_wt rest ≤ 8) (hu : u.1 + mx_mc t ≤ F.2.2.1) (hu2 : u.2 + mx_ms t ≤ F.2.2.2) (hd : decode cc pc = .ok (.invokevirtual idx, 3))
    (kr : ∀ r h', Q (.inl r) h' → mx_G p l e R s m args below meth c nL A D cy sp al0 Qe (pc + 3) L (r.toList ++ rest) h' (u.1 + mx_mc t, u.2 + mx_ms t)) (kx : ∀ x h', Q (.inr x) h' → mx_GX p l e R s m args below meth c nL A D cy sp al0 Qe pc L x h' (u.1 + mx_mc t, u.2 + mx_ms t)) : mx_G p l e R s m args below meth c nL A D cy sp al0 Qe pc L st h u := by
  intro al H locs ls vs hr hl hs
  obtain ⟨ys, e1, e2, e3⟩ := mx_tk_spec htk
  subst e2
  obtain ⟨w1, w2, rfl, r1, ⟨w0, w2, rfl, ⟨b, hb, rfl⟩, r2⟩⟩ := hs.split
  have hM' := hM al (.ref b :: w1.reverse) H.size hr.1.1 hr.2.1 hr.2.2.1 ⟨_, _, rfl, ⟨b, hb, rfl⟩, by rw [e3, List.append_nil]; exact r1.rev⟩
  obtain ⟨k1, k2, k3⟩ := ht.2.2.2.2.2.2.2.1 hk
  rw [hcl] at k2
  refine mx_after X hr hl r2 (a := (.ref b :: w1.reverse).toArray) (vx_runV (Ts := mx_Ts) (As := w1.reverse) (C := C) ⟨X.1, X.2.1, X.2.2.1, X.own, X.ts⟩ hM' ⟨mx_cb X ht k3 hR hw, X.ts _ k1, X.ts _ k2⟩ ⟨mx_Pb_blind, va_recv X.K hr.2.2.2.1 hc (mx_wd_get hb hq), fun U hU hW => ⟨rfl, mx_pre X hr hF hU hW⟩⟩ rfl ?_ hl.1 ?_ (mx_stackW r2 hwt) hd ⟨Nat.le_trans hu X.2.2.2.2.2.2.2.1, Nat.le_trans hu2 X.2.2.2.2.2.2.2.2.1⟩) kr kx
  · rw [List.length_reverse, r1.len, e1]
  · rw [List.reverse_reverse]
theorem mx_s_callVS (X : mx_X p l s m args meth c R cc nL own A D cy sp F) {t : mx_MT} {d idx q : Nat} {F1 : Nat → Option (Nat × (Nat → Int))} {as rest : List mx_v} {Q : mx_O → mx_H → Prop} (ht : mx_mok t) (hk : mx_mk t = 1) (hcl : (mx_my t).cls = "java/lang/String") (hq : (Nat.ble 10 q && Nat.ble q 36) = true) (hw : Cond.methodLink own idx (mx_my t) ∈ mx_Ts) (hM : mx_M l D cy sp F1 d t (mx_S q :: as) h Q) (hF : ∀ k x, F1 k = some x → F.1 k = some x) (hR : d + 9 ≤ R.frames ∧ 64 * d + 264 ≤ R.locals)
    (htk : mx_tk (mx_mn t) [] st = some (as, mx_S q :: rest)) (hwt : mx_wt rest ≤ 8) (hu : u.1 + mx_mc t ≤ F.2.2.1) (hu2 : u.2 + mx_ms t ≤ F.2.2.2) (hd : decode cc pc = .ok (.invokevirtual idx, 3))
    (kr : ∀ r h', Q (.inl r) h' → mx_G p l e R s m args below meth c nL A D cy sp al0 Qe (pc + 3) L (r.toList ++ rest) h' (u.1 + mx_mc t, u.2 + mx_ms t)) (kx : ∀ x h', Q (.inr x) h' → mx_GX p l e R s m args below meth c nL A D cy sp al0 Qe pc L x h' (u.1 + mx_mc t, u.2 + mx_ms t)) : mx_G p l e R s m args below meth c nL A D cy sp al0 Qe pc L st h u := by
  intro al H locs ls vs hr hl hs
  obtain ⟨ys, e1, e2, e3⟩ := mx_tk_spec htk
  subst e2
  obtain ⟨w1, w2, rfl, r1, ⟨w0, w2, rfl, rfl, r2⟩⟩ := hs.split
  have hM' := hM al (.ref (sp q) :: w1.reverse) H.size hr.1.1 hr.2.1 hr.2.2.1 ⟨_, _, rfl, rfl, by rw [e3, List.append_nil]; exact r1.rev⟩
  obtain ⟨k1, k2, k3⟩ := ht.2.2.2.2.2.2.2.1 hk
  rw [hcl] at k2
  obtain ⟨k9, hk9, e9⟩ := mx_str hq
  have hrec := va_Orecv (X.env.2.2.2.2.2.2.2.1 k9 hk9).2.1 hr.2.2.2.2.2
  rw [← e9] at hrec
  refine mx_after X hr hl r2 (a := (.ref (sp q) :: w1.reverse).toArray) (vx_runV (Ts := mx_Ts) (As := w1.reverse) (C := "java/lang/String") ⟨X.1, X.2.1, X.2.2.1, X.own, X.ts⟩ hM' ⟨mx_cb X ht k3 hR hw, X.ts _ k1, X.ts _ k2⟩ ⟨mx_Pb_blind, hrec, fun U hU hW => ⟨rfl, mx_pre X hr hF hU hW⟩⟩ rfl ?_ hl.1 ?_ (mx_stackW r2 hwt) hd ⟨Nat.le_trans hu X.2.2.2.2.2.2.2.1, Nat.le_trans hu2 X.2.2.2.2.2.2.2.2.1⟩) kr kx
  · rw [List.length_reverse, r1.len, e1]
  · rw [List.reverse_reverse]
/-- what a run of the three other kinds gives -/
theorem mx_s_callSN (X : mx_X p l s m args meth c R cc nL own A D cy sp F) {t : mx_MT} {d idx : Nat} {host : String} {F1 : Nat → Option (Nat × (Nat → Int))} {as rest : List mx_v} {Q : mx_O → mx_H → Prop} (ht : mx_mok t) (hk : mx_mk t = 0) (hh : mx_mh t = []) (hw : Cond.methodLinkNest own idx (mx_my t) host ∈ lw_tbl) (hM : mx_M l D cy sp F1 d t as h Q) (hF : ∀ k x, F1 k = some x → F.1 k = some x) (hR : d + 9 ≤ R.frames ∧ 64 * d + 264 ≤ R.locals)
    (htk : mx_tk (mx_mn t) [] st = some (as, rest)) (hwt : mx_wt rest ≤ 8) (hu : u.1 + mx_mc t ≤ F.2.2.1) (hu2 : u.2 + mx_ms t ≤ F.2.2.2) (hd : decode cc pc = .ok (.invokestatic idx, 3))
    (kr : ∀ r h', Q (.inl r) h' → mx_G p l e R s m args below meth c nL A D cy sp al0 Qe (pc + 3) L (r.toList ++ rest) h' (u.1 + mx_mc t, u.2 + mx_ms t)) (kx : ∀ x h', Q (.inr x) h' → mx_GX p l e R s m args below meth c nL A D cy sp al0 Qe pc L x h' (u.1 + mx_mc t, u.2 + mx_ms t)) : mx_G p l e R s m args below meth c nL A D cy sp al0 Qe pc L st h u := by
  intro al H locs ls vs hr hl hs
  obtain ⟨ys, e1, e2, e3⟩ := mx_tk_spec htk
  subst e2
  obtain ⟨w1, w2, rfl, r1, r2⟩ := hs.split
  have hM' := hM al w1.reverse H.size hr.1.1 hr.2.1 hr.2.2.1 (by rw [e3, List.append_nil]; exact r1.rev)
  have hc : Cond.code (mx_my t) (mx_mb t) (mx_ml t) (mx_mr t) ∈ mx_Ts := by rw [← mx_cw_code hh]; exact ht.1
  have h1 := ht.2.2.2.2.2.1
  have hK : vx_Back l R p e below s args (mx_my t) 3 8 (PreOf R (mx_mc t) (mx_ms t) (va_Pc w1.reverse (mx_Pb D cy sp F1 al h H.size))) (PostOf (mx_Qc D cy sp al h H.size Q) (mx_mc t) (mx_ms t) (va_A (mx_wd cy al h) H.size)) (vx_Post (mx_XC D cy al h H.size Q) (mx_mc t) (mx_ms t) (va_A (mx_wd cy al h) H.size)) :=
    vx_back (bytes := mx_mb t) (maxL := mx_ml t) (ret := mx_mr t) hM' mx_Pb_blind rfl rfl hR.1 (show 8 + (mx_ml t + 11) + (64 * d + 200) ≤ R.locals by omega) (mx_ws_at ht X.ts) (List.mem_cons_of_mem _ hc) (fun a' U hW => mx_Ts_at ht.2.2.1 X.ts hW)
  refine mx_after X hr hl r2 (a := w1.reverse.toArray) (mc := mx_mc t) (ms := mx_ms t) (fun T hT XT => ?_) kr kx
  rcases vy_callSN XT X.1 (bytes := mx_mb t) (maxL := mx_ml t) (ret := mx_mr t) X.own (va_Nw.use rfl (X.2.2.2.2.2.2.2.2.2.2.2.2.2.2 _ hw rfl)) (X.ts _ (ht.2.2.2.2.2.2.1 hk)) (X.ts _ ht.2.2.1) (X.ts _ hc) ht.2.2.2.1 hK (g := F0 m pc ls (w1 ++ w2)) rfl (hl.1.trans X.2.2.1.symm) (argsL := w1.reverse) (rest := w2) (fun sig h9 => by rw [List.length_reverse, r1.len, e1]; exact ht.len sig h9) (by rw [List.reverse_reverse]) (mx_stackW r2 hwt) (by rw [X.2.1]; exact hd)
    (fun vm₁ hW₁ => ⟨Nat.le_trans hu X.2.2.2.2.2.2.2.1, Nat.le_trans hu2 X.2.2.2.2.2.2.2.2.1, rfl, mx_pre X hr hF (U := T.setVm vm₁) hT hW₁⟩) with ⟨v, vm₁, ⟨U', l2, c2, s2⟩, hW₁, X', ⟨g', mk, t9, L9, e1, e2, hq, h1, hL, h2, h3⟩, go⟩ | ⟨q, vm₁, ⟨U', l2, c2, s2⟩, hW₁, X', ⟨g', mk, t9, L9, E, ce, e1, e2, hq, hce, hcv, hcl, h1, hL, h2, h3⟩, go⟩
  · dsimp only [Pt.U, Pt.locs, Pt.cells, Pt.slots] at X' e1 e2 h1 h2 h3 go
    subst h1; subst h2; subst h3
    exact Or.inl ⟨v, (T.setVm vm₁).calling g' mk w1.reverse.toArray, t9, U', L9, hT, X', hL, e1, e2, hq, go⟩
  · dsimp only [Pt.U, Pt.locs, Pt.cells, Pt.slots] at X' e1 e2 h1 h2 h3 go hcl
    subst h1; subst h2; subst h3
    exact Or.inr ⟨q, (T.setVm vm₁).calling g' mk w1.reverse.toArray, t9, U', L9, E, ce, hT, X', hL, e1, e2, hq, hce, hcv, vx_cls hW₁ hcl, go⟩
theorem mx_s_callI (X : mx_X p l s m args meth c R cc nL own A D cy sp F) {t : mx_MT} {d idx q : Nat} {F1 : Nat → Option (Nat × (Nat → Int))} {as rest : List mx_v} {Q : mx_O → mx_H → Prop} (ht : mx_mok t) (hk : mx_mk t = 2) (hw : Cond.methodLink own idx (mx_my t) ∈ mx_Ts ∨ ∃ host, Cond.methodLinkNest own idx (mx_my t) host ∈ lw_tbl) (hM : mx_M l D cy sp F1 d t (mx_R q :: as) h Q) (hF : ∀ k x, F1 k = some x → F.1 k = some x) (hR : d + 9 ≤ R.frames ∧ 64 * d + 264 ≤ R.locals)
    (htk : mx_tk (mx_mn t) [] st = some (as, mx_R q :: rest)) (hwt : mx_wt rest ≤ 8) (hu : u.1 + mx_mc t ≤ F.2.2.1) (hu2 : u.2 + mx_ms t ≤ F.2.2.2) (hd : decode cc pc = .ok (.invokespecial idx, 3))
    (kr : ∀ r h', Q (.inl r) h' → mx_G p l e R s m args below meth c nL A D cy sp al0 Qe (pc + 3) L (r.toList ++ rest) h' (u.1 + mx_mc t, u.2 + mx_ms t)) (kx : ∀ x h', Q (.inr x) h' → mx_GX p l e R s m args below meth c nL A D cy sp al0 Qe pc L x h' (u.1 + mx_mc t, u.2 + mx_ms t)) : mx_G p l e R s m args below meth c nL A D cy sp al0 Qe pc L st h u := by
  intro al H locs ls vs hr hl hs
  obtain ⟨ys, e1, e2, e3⟩ := mx_tk_spec htk
  subst e2
  obtain ⟨w1, w2, rfl, r1, ⟨w0, w2, rfl, ⟨b, hb, rfl⟩, r2⟩⟩ := hs.split
  have hM' := hM al (.ref b :: w1.reverse) H.size hr.1.1 hr.2.1 hr.2.2.1 ⟨_, _, rfl, ⟨b, hb, rfl⟩, by rw [e3, List.append_nil]; exact r1.rev⟩
  obtain ⟨k1, k2, k4, k3⟩ := ht.2.2.2.2.2.2.2.2 hk
  have hc : Cond.code (mx_my t) (mx_mb t) (mx_ml t) (mx_mr t) ∈ mx_Ts := by rw [← mx_cw_code k3]; exact ht.1
  have h1 := ht.2.2.2.2.2.1
  have hK : vx_Back l R p e below s args (mx_my t) 3 8 (PreOf R (mx_mc t) (mx_ms t) (va_Pc (.ref b :: w1.reverse) (mx_Pb D cy sp F1 al h H.size))) (PostOf (mx_Qc D cy sp al h H.size Q) (mx_mc t) (mx_ms t) (va_A (mx_wd cy al h) H.size)) (vx_Post (mx_XC D cy al h H.size Q) (mx_mc t) (mx_ms t) (va_A (mx_wd cy al h) H.size)) :=
    vx_back (bytes := mx_mb t) (maxL := mx_ml t) (ret := mx_mr t) hM' mx_Pb_blind rfl rfl hR.1 (show 8 + (mx_ml t + 11) + (64 * d + 200) ≤ R.locals by omega) (mx_ws_at ht X.ts) (List.mem_cons_of_mem _ hc) (fun a' U hW => mx_Ts_at ht.2.2.1 X.ts hW)
  rw [k4] at hc
  refine mx_after X hr hl r2 (a := (.ref b :: w1.reverse).toArray) (mc := mx_mc t) (ms := mx_ms t) (fun T hT XT => ?_) kr kx
  have hcall : (∃ (v : Option Value) (vm₁ : Vm) (B : Pt), s.WarmedH vm₁ ∧ Stand p l e R s m args below meth c B.U B.locs B.cells B.slots ∧ PostOf (mx_Qc D cy sp al h H.size Q) (mx_mc t) (mx_ms t) (va_A (mx_wd cy al h) H.size) ⟨T.setVm vm₁, locs, u.1, u.2⟩ (Value.ref b :: w1.reverse).toArray v B ∧
      ∀ target, Steps p.tables e below (B.U.setTop { F0 m pc ls (w1 ++ .ref b :: w2) with pc := pc + 3, stack := v.toList ++ w2 }) target → Steps p.tables e below (T.setTop (F0 m pc ls (w1 ++ .ref b :: w2))) target) ∨
    (∃ (q : Addr) (vm₁ : Vm) (B : Pt), s.WarmedH vm₁ ∧ Stand p l e R s m args below meth c B.U B.locs B.cells B.slots ∧ vx_Post (mx_XC D cy al h H.size Q) (mx_mc t) (mx_ms t) (va_A (mx_wd cy al h) H.size) ⟨T.setVm vm₁, locs, u.1, u.2⟩ (Value.ref b :: w1.reverse).toArray q B ∧
      Steps p.tables e below (T.setTop (F0 m pc ls (w1 ++ .ref b :: w2))) ((B.U.setTop { F0 m pc ls (w1 ++ .ref b :: w2) with stack := w2 }).pushFrame (.throwing q))) := by
    rcases hw with hw | ⟨host, hw⟩
    · exact vy_callI XT X.1 (bytes := mx_mb t) (maxL := mx_ml t) X.own k2 (X.ts _ hw) (X.ts _ k1) (X.ts _ hc) ht.2.2.2.1 hK (g := F0 m pc ls (w1 ++ .ref b :: w2)) rfl (hl.1.trans X.2.2.1.symm) (argsL := w1.reverse) (rest := w2) (fun sig h9 => by rw [List.length_reverse, r1.len, e1]; exact ht.len sig h9) (by rw [List.reverse_reverse]) (mx_stackW r2 hwt) (by rw [X.2.1]; exact hd)
        (fun vm₁ hW₁ => ⟨Nat.le_trans hu X.2.2.2.2.2.2.2.1, Nat.le_trans hu2 X.2.2.2.2.2.2.2.2.1, rfl, mx_pre X hr hF (U := T.setVm vm₁) hT hW₁⟩)
    · exact vy_callIN XT X.1 (bytes := mx_mb t) (maxL := mx_ml t) X.own k2 (va_Nw.use rfl (X.2.2.2.2.2.2.2.2.2.2.2.2.2.2 _ hw rfl)) (X.ts _ k1) (X.ts _ hc) ht.2.2.2.1 hK (g := F0 m pc ls (w1 ++ .ref b :: w2)) rfl (hl.1.trans X.2.2.1.symm) (argsL := w1.reverse) (rest := w2) (fun sig h9 => by rw [List.length_reverse, r1.len, e1]; exact ht.len sig h9) (by rw [List.reverse_reverse]) (mx_stackW r2 hwt) (by rw [X.2.1]; exact hd)
        (fun vm₁ hW₁ => ⟨Nat.le_trans hu X.2.2.2.2.2.2.2.1, Nat.le_trans hu2 X.2.2.2.2.2.2.2.2.1, rfl, mx_pre X hr hF (U := T.setVm vm₁) hT hW₁⟩)
  rcases hcall with ⟨v, vm₁, ⟨U', l2, c2, s2⟩, hW₁, X', ⟨g', mk, t9, L9, e1, e2, hq, h1, hL, h2, h3⟩, go⟩ | ⟨q, vm₁, ⟨U', l2, c2, s2⟩, hW₁, X', ⟨g', mk, t9, L9, E, ce, e1, e2, hq, hce, hcv, hcl, h1, hL, h2, h3⟩, go⟩
  · dsimp only [Pt.U, Pt.locs, Pt.cells, Pt.slots] at X' e1 e2 h1 h2 h3 go
    subst h1; subst h2; subst h3
    exact Or.inl ⟨v, (T.setVm vm₁).calling g' mk (Value.ref b :: w1.reverse).toArray, t9, U', L9, hT, X', hL, e1, e2, hq, go⟩
  · dsimp only [Pt.U, Pt.locs, Pt.cells, Pt.slots] at X' e1 e2 h1 h2 h3 go hcl
    subst h1; subst h2; subst h3
    exact Or.inr ⟨q, (T.setVm vm₁).calling g' mk (Value.ref b :: w1.reverse).toArray, t9, U', L9, E, ce, hT, X', hL, e1, e2, hq, hce, hcv, vx_cls hW₁ hcl, go⟩
end MXC
