/-! calls: a method's contract out of the small machine's words, and the rows of the calls -/
/-- a method: its name, code, locals, answer, kind (0 static, 1 virtual, 2 constructor), how many values it takes, how many cells and slots it makes at most, its table of handlers as the code has it and as the small machine has it -/
abbrev mx_MT : Type := MethodName × (ByteArray × (Nat × (Option FieldType × (Nat × (Nat × ((Nat × Nat) × (List (Nat × Nat × Nat × Nat) × List (Nat × Nat × Nat × Nat × Nat))))))))
abbrev mx_my (t : mx_MT) : MethodName := t.1
abbrev mx_mb (t : mx_MT) : ByteArray := t.2.1
abbrev mx_ml (t : mx_MT) : Nat := t.2.2.1
abbrev mx_mr (t : mx_MT) : Option FieldType := t.2.2.2.1
abbrev mx_mk (t : mx_MT) : Nat := t.2.2.2.2.1
abbrev mx_mn (t : mx_MT) : Nat := t.2.2.2.2.2.1
abbrev mx_mc (t : mx_MT) : Nat := t.2.2.2.2.2.2.1.1
abbrev mx_ms (t : mx_MT) : Nat := t.2.2.2.2.2.2.1.2
abbrev mx_mh (t : mx_MT) : List (Nat × Nat × Nat × Nat) := t.2.2.2.2.2.2.2.1
abbrev mx_mt (t : mx_MT) : List (Nat × Nat × Nat × Nat × Nat) := t.2.2.2.2.2.2.2.2
def mx_cw (t : mx_MT) : Cond := match mx_mh t with
  | [] => .code (mx_my t) (mx_mb t) (mx_ml t) (mx_mr t)
  | hh => .codeWith (mx_my t) (mx_mb t) (mx_ml t) (mx_mr t) hh
def mx_ws (t : mx_MT) : List Cond := mx_cw t :: mx_Ts
def mx_rm (d : Nat) (t : mx_MT) : Room := { frames := d + 8, cells := mx_mc t, slots := mx_ms t, locals := 64 * d + 200 }
/-- what the tables say of a method -/
def mx_mok (t : mx_MT) : Prop := mx_cw t ∈ mx_Ts ∧ plainFor (mx_my t) = true ∧ Cond.initialized (mx_my t).cls ∈ mx_Ts ∧ ((mx_my t).cls ≠ "java/lang/invoke/MethodHandle" ∧ (mx_my t).cls ≠ "java/lang/invoke/VarHandle") ∧
  (parseMethodDescriptor (mx_my t).desc).map (fun d => d.parameters.length) = some (mx_mn t) ∧ mx_ml t ≤ 45 ∧
  (mx_mk t = 0 → Cond.static (mx_my t) ∈ mx_Ts) ∧ (mx_mk t = 1 → Cond.instanceMethod (mx_my t) ∈ mx_Ts ∧ Cond.selects (mx_my t).cls (mx_my t) (mx_my t) ∈ mx_Ts ∧ mx_mh t = []) ∧ (mx_mk t = 2 → Cond.instanceMethod (mx_my t) ∈ mx_Ts ∧ (mx_my t).name = "<init>" ∧ mx_mr t = none ∧ mx_mh t = [])
theorem mx_Ts_at {w : Cond} (h : w ∈ mx_Ts) {args a' : Array Value} {s U : State} (hts : ∀ w ∈ mx_Ts, w.before args s = true) (hW : s.WarmedH U.vm) : w.before a' U = true := word_at hW (good_of_word (List.mem_filter.mp h).2) (hts w h)
theorem mx_ws_at {t : mx_MT} (ht : mx_mok t) {args : Array Value} {s : State} (hts : ∀ w ∈ mx_Ts, w.before args s = true) : ∀ w ∈ mx_ws t, ∀ (a' : Array Value) (U : State), s.WarmedH U.vm → w.before a' U = true := by
  intro w hw a' U hW
  rcases List.mem_cons.mp hw with rfl | hw
  · exact mx_Ts_at ht.1 hts hW
  · exact mx_Ts_at hw hts hW
/-- the things outside the cells, seen from a callee -/
theorem mx_env.move {sp : Nat → Nat} {F1 F2 : Nat → Option (Nat × (Nat → Int))} {A B : Nat → Prop} {s U : State} {H : Heap} {locs : List Loc} (h : mx_env sp F1 A s) (hF : ∀ k x, F2 k = some x → F1 k = some x) (hS : va_S A s.heap H locs) (hU : U.heap = H) (hW : s.WarmedH U.vm) (hAB : ∀ q, B q → A q) : mx_env sp F2 B U := by
  obtain ⟨h1, h2, h3, h4, h5, h6, h7, h8, h9, h10⟩ := h
  refine ⟨fun k n f hk => ?_, ?_, ?_, ?_, ?_, ?_, fun x y hx hy hxy => (h7 x y hx hy hxy).moved hW.alike, fun k hk => ?_, ?_, ?_⟩
  · obtain ⟨e1, e2, e3, e4⟩ := h1 k n f (hF k _ hk)
    refine ⟨by rw [hU]; exact Nat.lt_of_lt_of_le e1 hS.1, fun z => e2 (hAB _ z), e3, ?_⟩
    rw [hU]
    exact (e4.kept (hS.2.1 _ e1 e2)).moved hW.alike
  · rw [hU]; exact ((h2.kept hS.2.1).narrow hAB).moved hW.alike
  · rw [hU]; exact ((h3.kept hS.2.1).narrow hAB).moved hW.alike
  · rw [hU]; exact ((h4.kept hS.2.1).narrow hAB).moved hW.alike
  · rw [hU]; exact ((h5.kept hS.2.1).narrow hAB).moved hW.alike
  · rw [hU]; exact ((h6.kept hS.2.1).narrow hAB).moved hW.alike
  · obtain ⟨e1, e2, e3, e4, e5⟩ := h8 k hk
    rw [hU]
    exact ⟨e1.warm hW, ((e2.kept hS.2.1).narrow hAB).moved hW.alike, ((e3.kept hS.2.1).narrow hAB).moved hW.alike, ((e4.kept hS.2.1).narrow hAB).moved hW.alike, ((e5.kept hS.2.1).narrow hAB).moved hW.alike⟩
  · rw [hU]; exact ((h9.kept hS.2.1).narrow hAB).moved hW.alike
  · rw [hU]
    rcases h10 with h10 | h10
    · exact Or.inl (((h10.kept hS.2.1).narrow hAB).moved hW.alike)
    · exact Or.inr (((h10.kept hS.2.1).narrow hAB).moved hW.alike)
abbrev mx_tys (cy : Nat → ClassId) : List (ClassId × FieldType) := [(cy 0, .int), (cy 1, .long), (cy 2, .boolean)]
def mx_Pb (D : va_G) (cy : Nat → ClassId) (sp : Nat → Nat) (F1 : Nat → Option (Nat × (Nat → Int))) (al : List Nat) (h : mx_H) (sz : Nat) (U : State) : Prop :=
  U.heap.size = sz ∧ va_P D vwCl (mx_wd cy al h) U.heap ∧ va_K D vwCl (mx_tys cy) U ∧ va_D (fun _ => True) (mx_wd cy al h) ∧ mx_env sp F1 (va_A (mx_wd cy al h) sz) U ∧ ∀ w ∈ lw_tbl, mx_nwK w = true → va_Nw w U
def mx_ro (al : List Nat) (sp : Nat → Nat) (r : Option mx_v) (v : Option Value) : Prop := match r with
  | none => v = none
  | some x => ∃ w, v = some w ∧ mx_rp al sp x w
def mx_Qb (D : va_G) (cy : Nat → ClassId) (al : List Nat) (h : mx_H) (sz : Nat) (al' : List Nat) (h' : mx_H) (t : State) : Prop :=
  (∃ b, al' = al ++ b) ∧ al'.length = h'.1.length ∧ mx_wf h'.1 ∧ mx_wl h'.1 ∧ va_P D vwCl (mx_wd cy al' h') t.heap ∧ va_D (va_A (mx_wd cy al h) sz) (mx_wd cy al' h')
def mx_Qc (D : va_G) (cy : Nat → ClassId) (sp : Nat → Nat) (al : List Nat) (h : mx_H) (sz : Nat) (Q : mx_O → mx_H → Prop) : Array Value → State → Outcome → State → Prop := fun _ st oc t =>
  (∃ (r : Option mx_v) (h' : mx_H) (al' : List Nat) (v : Option Value), Q (.inl r) h' ∧ oc = .returned v ∧ mx_ro al' sp r v ∧ mx_Qb D cy al h sz al' h' t) ∧ va_F (va_A (mx_wd cy al h) sz) st t
def mx_XC (D : va_G) (cy : Nat → ClassId) (al : List Nat) (h : mx_H) (sz : Nat) (Q : mx_O → mx_H → Prop) : String → State → State → Prop := fun E st t =>
  (∃ (x : Nat) (h' : mx_H) (al' : List Nat), x < 4 ∧ E = mx_ex x ∧ Q (.inr x) h' ∧ mx_Qb D cy al h sz al' h' t) ∧ va_F (va_A (mx_wd cy al h) sz) st t
/-- the contract of a method at depth d -/
def mx_M (l : Launch) (D : va_G) (cy : Nat → ClassId) (sp : Nat → Nat) (F1 : Nat → Option (Nat × (Nat → Int))) (d : Nat) (t : mx_MT) (as : List mx_v) (h : mx_H) (Q : mx_O → mx_H → Prop) : Prop :=
  ∀ (al : List Nat) (vs : List Value) (sz : Nat), al.length = h.1.length → mx_wf h.1 → mx_wl h.1 → mx_rs al sp as vs →
    vx_Met l (mx_my t) (mx_ws t) (mx_rm d t) (va_Pc vs (mx_Pb D cy sp F1 al h sz)) (mx_Qc D cy sp al h sz Q) (mx_XC D cy al h sz Q) (mx_mc t) (mx_ms t) (va_A (mx_wd cy al h) sz)
theorem mx_Pb_blind {D : va_G} {cy : Nat → ClassId} {sp : Nat → Nat} {F1 : Nat → Option (Nat × (Nat → Int))} {al : List Nat} {h : mx_H} {sz : Nat} {vs : List Value} : FrameBlind (va_Pc vs (mx_Pb D cy sp F1 al h sz)) := by
  intro a U g mk q
  obtain ⟨q0, q1, q2, q3, q4, q5, q6⟩ := q
  refine ⟨q0, q1, q2, va_K.moved (u := U) (U := U.calling g mk a) (Vm.Alike.refl U.vm) q3, q4, ?_, fun w hw hk => mx_nw_warm hk (s := U) (U := U.calling g mk a) (State.WarmedH.refl U) (q6 w hw hk)⟩
  exact q5.move (s := U) (U := U.calling g mk a) (H := U.heap) (locs := []) (fun _ _ z => z) va_S.rf rfl (State.WarmedH.refl U) (fun _ z => z)
/-- the frame g, with exception x thrown over it -/
def mx_GX (p : Program) (l : Launch) (e : Env) (R : Room) (s : State) (m : MethodId) (args : Array Value) (below : List Frame) (meth : Method) (c : Code) (nL : Nat) (A : Nat → Prop) (D : va_G) (cy : Nat → ClassId) (sp : Nat → Nat) (al0 : List Nat) (Qe : State → Prop)
    (pc : Nat) (L : mx_L) (x : Nat) (h : mx_H) (u : Nat × Nat) : Prop :=
  ∀ (al : List Nat) (H : Heap) (locs : List Loc) (ls : Array Slot) (vs : List Value) (q : Addr) (ce : Cell), mx_rep s A D cy al0 al h H locs → mx_lr al sp nL L ls → x < 4 → H[q]? = some ce → ce.vm = .none → s.vm.findClass (mx_ex x) = some ce.cls → vx_W p l e R s m args below meth c H locs u.1 u.2 Qe (F0 m pc ls vs) q
section MXC
variable {p : Program} {l : Launch} {e : Env} {R : Room} {s : State} {m : MethodId} {args : Array Value} {below : List Frame} {meth : Method} {c : Code} {cc : ByteArray} {nL : Nat} {own : String} {A : Nat → Prop} {D : va_G} {cy : Nat → ClassId} {sp : Nat → Nat} {F : mx_F} {al0 : List Nat} {Qe : State → Prop} {pc : Nat} {L : mx_L} {st : List mx_v} {h : mx_H} {u : Nat × Nat}
theorem mx_freeA (X : mx_X p l s m args meth c R cc nL own A D cy sp F) {al : List Nat} {H : Heap} {locs : List Loc} (hr : mx_rep s A D cy al0 al h H locs) : ∀ q, va_A (mx_wd cy al h) H.size q → A q := by
  intro q hq
  rcases hq with ⟨k, x, hk⟩ | hq
  · exact hr.2.2.2.2.1.2 k _ hk
  · exact X.A q (Nat.le_trans hr.2.2.2.2.2.1 hq)
theorem mx_pre (X : mx_X p l s m args meth c R cc nL own A D cy sp F) {F1 : Nat → Option (Nat × (Nat → Int))} {al : List Nat} {H : Heap} {locs : List Loc} (hr : mx_rep s A D cy al0 al h H locs) (hF : ∀ k x, F1 k = some x → F.1 k = some x) {U : State} (hU : U.heap = H) (hW : s.WarmedH U.vm) : mx_Pb D cy sp F1 al h H.size U := by
  refine ⟨by rw [hU], by rw [hU]; exact hr.2.2.2.1, X.K.moved hW.alike, hr.2.2.2.2.1.weaken (fun _ _ _ _ => trivial), X.env.move hF hr.2.2.2.2.2 hU hW (mx_freeA X hr), fun w hw hk => mx_nw_warm hk hW (X.2.2.2.2.2.2.2.2.2.2.2.2.2.2 w hw hk)⟩
theorem mx_after (X : mx_X p l s m args meth c R cc nL own A D cy sp F) {Q : mx_O → mx_H → Prop} {al : List Nat} {H : Heap} {locs : List Loc} {ls : Array Slot} {mc ms : Nat} {rest : List Value} {st0 : List Value} {a : Array Value} (hr : mx_rep s A D cy al0 al h H locs) (hl : mx_lr al sp nL L ls) (hs : mx_rs al sp st rest)
    (hrun : vx_Run p l e R s m args below meth c H locs u.1 u.2 mc ms (F0 m pc ls st0) rest (mx_Qc D cy sp al h H.size Q a) (mx_XC D cy al h H.size Q) (va_A (mx_wd cy al h) H.size))
    (kr : ∀ r h', Q (.inl r) h' → mx_G p l e R s m args below meth c nL A D cy sp al0 Qe (pc + 3) L (r.toList ++ st) h' (u.1 + mc, u.2 + ms)) (kx : ∀ x h', Q (.inr x) h' → mx_GX p l e R s m args below meth c nL A D cy sp al0 Qe pc L x h' (u.1 + mc, u.2 + ms)) : W p l e R s m args below meth c H locs u.1 u.2 Qe (F0 m pc ls st0) := by
  intro T hT XT
  have hfr := mx_freeA X hr
  have key : ∀ (al' : List Nat) (h' : mx_H) (t T' : State) (Lc : List Loc), mx_Qb D cy al h H.size al' h' t → T'.heap = t.heap → va_S A s.heap T'.heap (locs ++ Lc) → mx_rep s A D cy al0 al' h' T'.heap (locs ++ Lc) := by
    intro al' h' t T' Lc hb e1 hS
    obtain ⟨⟨b0, b1⟩, b2, b3, b4, b5, b6⟩ := hb
    obtain ⟨b7, b8⟩ := hr.1.2
    exact ⟨⟨b2, b7 ++ b0, by rw [b1, b8, List.append_assoc]⟩, b3, b4, by rw [e1]; exact b5, b6.weaken (fun _ _ _ z => hfr _ z), hS⟩
  rcases hrun T hT XT with ⟨v, st₀, t, T', Lc, h0, X', hL, e1, e2, ⟨⟨r, h', al', v', hQ, hv, hro, hb⟩, hF⟩, go⟩ | ⟨q, st₀, t, T', Lc, E, ce, h0, X', hL, e1, e2, ⟨⟨x, h', al', hx4, rfl, hQ, hb⟩, hF⟩, hce, hcv, hcl, go⟩
  · cases hv
    obtain ⟨k1, k2, k3⟩ := vx_keep h0 e1 hr.2.2.2.2.2 (fun q _ z => hfr q z) hfr hL hF
    have hrs : mx_rs al' sp (r.toList ++ st) (v.toList ++ rest) := by
      refine mx_rs.app ?_ (hs.more hb.1)
      unfold mx_ro at hro
      split at hro
      · cases hro; rfl
      · obtain ⟨w, rfl, h9⟩ := hro
        exact ⟨w, [], rfl, h9, rfl⟩
    obtain ⟨t2, a1, b1⟩ := kr r h' hQ al' T'.heap (locs ++ Lc) ls (v.toList ++ rest) (key al' h' t T' Lc hb e1 k3) (hl.more hb.1) hrs T' rfl X'
    exact ⟨t2, go t2 a1, b1⟩
  · obtain ⟨k1, k2, k3⟩ := vx_keep h0 e1 hr.2.2.2.2.2 (fun q _ z => hfr q z) hfr hL hF
    obtain ⟨t2, a1, b1⟩ := kx x h' hQ al' T'.heap (locs ++ Lc) ls rest q ce (key al' h' t T' Lc hb e1 k3) (hl.more hb.1) hx4 (by rw [e1]; exact hce) hcv hcl T' rfl X'
    exact ⟨t2, go.trans a1, b1⟩
end MXC
