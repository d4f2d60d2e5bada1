/-! rows of the instructions that look into cells, change them or make them -/
theorem mx_X.ts {p : Program} {l : Launch} {R : Room} {s : State} {m : MethodId} {args : Array Value} {meth : Method} {c : Code} {cc : ByteArray} {nL : Nat} {own : String} {A : Nat → Prop} {D : va_G} {cy : Nat → ClassId} {sp : Nat → Nat} {F : mx_F} (X : mx_X p l s m args meth c R cc nL own A D cy sp F) : ∀ w ∈ mx_Ts, w.before args s = true := X.2.2.2.2.1
theorem mx_X.K {p : Program} {l : Launch} {R : Room} {s : State} {m : MethodId} {args : Array Value} {meth : Method} {c : Code} {cc : ByteArray} {nL : Nat} {own : String} {A : Nat → Prop} {D : va_G} {cy : Nat → ClassId} {sp : Nat → Nat} {F : mx_F} (X : mx_X p l s m args meth c R cc nL own A D cy sp F) : va_K D vwCl [(cy 0, .int), (cy 1, .long), (cy 2, .boolean)] s := X.2.2.2.2.2.1
theorem mx_X.own {p : Program} {l : Launch} {R : Room} {s : State} {m : MethodId} {args : Array Value} {meth : Method} {c : Code} {cc : ByteArray} {nL : Nat} {own : String} {A : Nat → Prop} {D : va_G} {cy : Nat → ClassId} {sp : Nat → Nat} {F : mx_F} (X : mx_X p l s m args meth c R cc nL own A D cy sp F) : s.vm.findClass own = some m.cls := X.2.2.2.1
theorem mx_X.A {p : Program} {l : Launch} {R : Room} {s : State} {m : MethodId} {args : Array Value} {meth : Method} {c : Code} {cc : ByteArray} {nL : Nat} {own : String} {A : Nat → Prop} {D : va_G} {cy : Nat → ClassId} {sp : Nat → Nat} {F : mx_F} (X : mx_X p l s m args meth c R cc nL own A D cy sp F) : ∀ q, s.heap.size ≤ q → A q := X.2.2.2.2.2.2.1
theorem mx_X.env {p : Program} {l : Launch} {R : Room} {s : State} {m : MethodId} {args : Array Value} {meth : Method} {c : Code} {cc : ByteArray} {nL : Nat} {own : String} {A : Nat → Prop} {D : va_G} {cy : Nat → ClassId} {sp : Nat → Nat} {F : mx_F} (X : mx_X p l s m args meth c R cc nL own A D cy sp F) : mx_env sp F.1 A s := X.2.2.2.2.2.2.2.2.2.1
theorem mx_fs_len {al : List Nat} {g : Nat → Int} {ci : Nat} {rf : List (Option Nat)} : (mx_fs al g ci rf).length = mx_ns ci := by
  unfold mx_fs
  rw [List.length_map, List.length_range]
theorem mx_fs_get {al : List Nat} {g : Nat → Int} {ci k : Nat} {rf : List (Option Nat)} (hk : k < mx_ns ci) : (mx_fs al g ci rf)[k]? = some (mx_vl al (mx_tg ci k) (g k) (rf.getD k none)) := by
  unfold mx_fs
  rw [List.getElem?_map, List.getElem?_range hk]
  rfl
theorem mx_fs_set {al : List Nat} {g g' : Nat → Int} {ci k : Nat} {rf rf' : List (Option Nat)} {v : Value} (hk : k < mx_ns ci) (hv : mx_vl al (mx_tg ci k) (g' k) (rf'.getD k none) = v) (ho : ∀ j, j ≠ k → g' j = g j ∧ rf'.getD j none = rf.getD j none) : mx_fs al g' ci rf' = (mx_fs al g ci rf).set k v := by
  apply List.ext_getElem?
  intro j
  rw [List.getElem?_set]
  by_cases hj : j < mx_ns ci
  · rw [mx_fs_get hj, mx_fs_get hj, mx_fs_len]
    by_cases e : k = j
    · subst e
      rw [if_pos rfl, if_pos hk, hv]
    · rw [if_neg e, (ho j (fun z => e z.symm)).1, (ho j (fun z => e z.symm)).2]
  · rw [List.getElem?_eq_none (by rw [mx_fs_len]; omega), List.getElem?_eq_none (by rw [mx_fs_len]; omega)]
    rw [if_neg (fun e => hj (by omega))]
theorem mx_vl_tag {al : List Nat} {sp : Nat → Nat} {t : Nat} {n : Int} {r : Option Nat} (ht : t ≠ 3) : mx_rp al sp (mx_tag t n) (mx_vl al t n r) := by
  match t, ht with
  | 0, _ => rfl
  | 1, _ => rfl
  | 2, _ => rfl
  | 3, h => exact absurd rfl h
  | t + 4, _ => rfl
theorem mx_up_at (f : Nat → Nat → Int) (q i : Nat) (n : Int) : mx_up f q i n q i = n := if_pos ⟨rfl, rfl⟩
section MXM
variable {p : Program} {l : Launch} {e : Env} {R : Room} {s : State} {m : MethodId} {args : Array Value} {below : List Frame} {meth : Method} {c : Code} {cc : ByteArray} {nL : Nat} {own : String} {A : Nat → Prop} {D : va_G} {cy : Nat → ClassId} {sp : Nat → Nat} {F : mx_F} {al0 : List Nat} {Qe : State → Prop} {pc : Nat} {L : mx_L} {st : List mx_v} {h : mx_H} {u : Nat × Nat}
theorem mx_s_get (X : mx_X p l s m args meth c R cc nL own A D cy sp F) {q ci k N idx : Nat} {C : String} {T : u_T} {rf : List (Option Nat)} (hc : vwCl[ci]? = some (C, T, N)) (hk : k < N) (hw : Cond.fieldLink own idx (T k).1 (T k).2.1 (T k).2.2.1 ∈ mx_Ts) (hq : h.1[q]? = some (.inl (ci, rf))) (ht : mx_tg ci k ≠ 3) (hd : decode cc pc = .ok (.getfield idx, 3))
    (kk : mx_G p l e R s m args below meth c nL A D cy sp al0 Qe (pc + 3) L (mx_tag (mx_tg ci k) (h.2 q k) :: st) h u) : mx_G p l e R s m args below meth c nL A D cy sp al0 Qe pc L (mx_R q :: st) h u := by
  intro al H locs ls vs hr hl hs
  obtain ⟨_, _, rfl, ⟨a, ha, rfl⟩, hs⟩ := hs
  obtain ⟨h0, h1, -, -⟩ := mx_cls hc
  exact va_get (D := D) X.1 X.2.1 X.ts h1 X.own X.K hr.2.2.2.1 q (mx_wd_get ha hq) hc k hk (X.ts _ hw) (fun _ h9 => h9) (mx_fs_get (by rw [h0]; exact hk)) hd (kk al H locs ls _ hr hl ⟨_, _, rfl, mx_vl_tag ht, hs⟩)
theorem mx_s_getR (X : mx_X p l s m args meth c R cc nL own A D cy sp F) {q ci k N idx r : Nat} {C : String} {T : u_T} {rf : List (Option Nat)} (hc : vwCl[ci]? = some (C, T, N)) (hk : k < N) (hw : Cond.fieldLink own idx (T k).1 (T k).2.1 (T k).2.2.1 ∈ mx_Ts) (hq : h.1[q]? = some (.inl (ci, rf))) (ht : mx_tg ci k = 3) (hrf : rf.getD k none = some r) (hd : decode cc pc = .ok (.getfield idx, 3))
    (kk : mx_G p l e R s m args below meth c nL A D cy sp al0 Qe (pc + 3) L (mx_R r :: st) h u) : mx_G p l e R s m args below meth c nL A D cy sp al0 Qe pc L (mx_R q :: st) h u := by
  intro al H locs ls vs hr hl hs
  obtain ⟨_, _, rfl, ⟨a, ha, rfl⟩, hs⟩ := hs
  obtain ⟨h0, h1, -, -⟩ := mx_cls hc
  have hlt : r < al.length := by rw [hr.1.1]; exact hr.2.1 q ci rf k r hq hrf
  have har : al[r]? = some (al[r]'hlt) := List.getElem?_eq_getElem hlt
  refine va_get (D := D) (v := .ref (al[r]'hlt)) X.1 X.2.1 X.ts h1 X.own X.K hr.2.2.2.1 q (mx_wd_get ha hq) hc k hk (X.ts _ hw) (fun _ h9 => h9) ?_ hd (kk al H locs ls _ hr hl ⟨_, _, rfl, ⟨_, har, rfl⟩, hs⟩)
  rw [mx_fs_get (by rw [h0]; exact hk), ht, hrf]
  unfold mx_vl
  simp only [har]
/-- a number comes to a field -/
theorem mx_s_put (X : mx_X p l s m args meth c R cc nL own A D cy sp F) {q ci k N idx : Nat} {n : Int} {v : mx_v} {C : String} {T : u_T} {rf : List (Option Nat)} (hc : vwCl[ci]? = some (C, T, N)) (hk : k < N) (hw : Cond.fieldLink own idx (T k).1 (T k).2.1 (T k).2.2.1 ∈ mx_Ts) (hfin : (T k).2.2.2 = false) (hq : h.1[q]? = some (.inl (ci, rf)))
    (hv : ∀ (al : List Nat) (r : Option Nat) (w : Value), mx_rp al sp v w → w = mx_vl al (mx_tg ci k) n r ∧ narrow (mx_ty ci k) w = w ∧ fits (mx_ty ci k) w = true) (hd : decode cc pc = .ok (.putfield idx, 3))
    (kk : mx_G p l e R s m args below meth c nL A D cy sp al0 Qe (pc + 3) L st (h.1, mx_up h.2 q k n) u) : mx_G p l e R s m args below meth c nL A D cy sp al0 Qe pc L (v :: mx_R q :: st) h u := by
  intro al H locs ls vs hr hl hs
  obtain ⟨w, _, rfl, hvw, _, _, rfl, ⟨a, ha, rfl⟩, hs⟩ := hs
  obtain ⟨h0, h1, h2, h3⟩ := mx_cls hc
  obtain ⟨e1, e2, e3⟩ := hv al (rf.getD k none) w hvw
  refine va_put (D := D) X.1 X.2.1 X.ts h1 (mx_ty ci) h2 h3 X.own X.K hr.2.2.2.1 hr.2.2.2.2.1 hr.2.2.2.2.2 q (mx_wd_get ha hq) hc k hk (X.ts _ hw) (fun _ h9 => h9) hfin (h2 k hk) e2 e3 (by rw [mx_fs_len, h0]; exact hk) hd (fun H1 locs1 hP hD hS => ?_)
  have hwd : mx_wd cy al (h.1, mx_up h.2 q k n) = (mx_wd cy al h).set q (a, .inr (ci, (mx_fs al (h.2 q) ci rf).set k w)) := by
    refine mx_wd_set hr.1.1 rfl ha hq ?_ (fun j hj => ⟨rfl, funext fun b => if_neg (fun z => hj z.1)⟩)
    show Sum.inr (ci, mx_fs al _ ci rf) = _
    refine congrArg (fun z => Sum.inr (ci, z)) (mx_fs_set (by rw [h0]; exact hk) ?_ (fun j hj => ⟨if_neg (fun z => hj z.2), rfl⟩))
    rw [e1]
    show mx_vl al (mx_tg ci k) (mx_up h.2 q k n q k) _ = _
    rw [mx_up_at]
  refine kk al H1 locs1 ls _ ⟨hr.1, hr.2.1, hr.2.2.1, ?_, ?_, hS⟩ hl hs
  · rw [hwd]; exact hP
  · rw [hwd]; exact hD
theorem mx_s_putI (X : mx_X p l s m args meth c R cc nL own A D cy sp F) {q ci k N idx : Nat} {n : Int} {C : String} {T : u_T} {rf : List (Option Nat)} (hc : vwCl[ci]? = some (C, T, N)) (hk : k < N) (hw : Cond.fieldLink own idx (T k).1 (T k).2.1 (T k).2.2.1 ∈ mx_Ts) (hfin : (T k).2.2.2 = false) (hq : h.1[q]? = some (.inl (ci, rf))) (ht : mx_ty ci k = .int) (hd : decode cc pc = .ok (.putfield idx, 3))
    (kk : mx_G p l e R s m args below meth c nL A D cy sp al0 Qe (pc + 3) L st (h.1, mx_up h.2 q k n) u) : mx_G p l e R s m args below meth c nL A D cy sp al0 Qe pc L (mx_I n :: mx_R q :: st) h u := by
  refine mx_s_put X hc hk hw hfin hq (n := n) (fun al r w hv => ?_) hd kk
  cases hv
  unfold mx_tg
  rw [ht]
  exact ⟨rfl, rfl, rfl⟩
theorem mx_s_putJ (X : mx_X p l s m args meth c R cc nL own A D cy sp F) {q ci k N idx : Nat} {n : Int} {C : String} {T : u_T} {rf : List (Option Nat)} (hc : vwCl[ci]? = some (C, T, N)) (hk : k < N) (hw : Cond.fieldLink own idx (T k).1 (T k).2.1 (T k).2.2.1 ∈ mx_Ts) (hfin : (T k).2.2.2 = false) (hq : h.1[q]? = some (.inl (ci, rf))) (ht : mx_ty ci k = .long) (hd : decode cc pc = .ok (.putfield idx, 3))
    (kk : mx_G p l e R s m args below meth c nL A D cy sp al0 Qe (pc + 3) L st (h.1, mx_up h.2 q k n) u) : mx_G p l e R s m args below meth c nL A D cy sp al0 Qe pc L (mx_J n :: mx_R q :: st) h u := by
  refine mx_s_put X hc hk hw hfin hq (n := n) (fun al r w hv => ?_) hd kk
  cases hv
  unfold mx_tg
  rw [ht]
  exact ⟨rfl, rfl, rfl⟩
theorem mx_bool {n : Int} (h : w32 n = 0 ∨ w32 n = 1) : Int32.ofInt n = 0 ∨ Int32.ofInt n = 1 := by
  rcases h with h | h
  · left
    apply Int32.toInt_inj.mp
    exact h
  · right
    apply Int32.toInt_inj.mp
    exact h
theorem mx_s_putZ (X : mx_X p l s m args meth c R cc nL own A D cy sp F) {q ci k N idx : Nat} {n : Int} {C : String} {T : u_T} {rf : List (Option Nat)} (hc : vwCl[ci]? = some (C, T, N)) (hk : k < N) (hw : Cond.fieldLink own idx (T k).1 (T k).2.1 (T k).2.2.1 ∈ mx_Ts) (hfin : (T k).2.2.2 = false) (hq : h.1[q]? = some (.inl (ci, rf))) (ht : mx_ty ci k = .boolean) (hn : w32 n = 0 ∨ w32 n = 1) (hd : decode cc pc = .ok (.putfield idx, 3))
    (kk : mx_G p l e R s m args below meth c nL A D cy sp al0 Qe (pc + 3) L st (h.1, mx_up h.2 q k n) u) : mx_G p l e R s m args below meth c nL A D cy sp al0 Qe pc L (mx_I n :: mx_R q :: st) h u := by
  refine mx_s_put X hc hk hw hfin hq (n := n) (fun al r w hv => ?_) hd kk
  cases hv
  unfold mx_tg
  rw [ht]
  refine ⟨rfl, ?_, ?_⟩
  · rcases mx_bool hn with e | e <;> rw [e] <;> rfl
  · rcases mx_bool hn with e | e <;> rw [e] <;> rfl
/-- a reference comes to a final field, in a constructor -/
theorem mx_s_putR (X : mx_X p l s m args meth c R cc nL own A D cy sp F) {q ci k N idx r : Nat} {C : String} {T : u_T} {rf : List (Option Nat)} (hc : vwCl[ci]? = some (C, T, N)) (hk : k < N) (hw : Cond.fieldLink own idx (T k).1 (T k).2.1 (T k).2.2.1 ∈ mx_Ts) (hfin : (T k).2.2.2 = true) (hin : meth.name = "<init>") (hdc : (T k).1 = own) (hq : h.1[q]? = some (.inl (ci, rf))) (ht : mx_tg ci k = 3) (hd : decode cc pc = .ok (.putfield idx, 3))
    (kk : mx_G p l e R s m args below meth c nL A D cy sp al0 Qe (pc + 3) L st (h.1.set q (.inl (ci, rf.set k (some r))), h.2) u) : mx_G p l e R s m args below meth c nL A D cy sp al0 Qe pc L (mx_R r :: mx_R q :: st) h u := by
  intro al H locs ls vs hr hl hs
  obtain ⟨_, _, rfl, ⟨ar, har, rfl⟩, _, _, rfl, ⟨a, ha, rfl⟩, hs⟩ := hs
  obtain ⟨h0, h1, h2, h3⟩ := mx_cls hc
  have hrl : r < h.1.length := by rw [← hr.1.1]; exact (List.getElem?_eq_some_iff.mp har).1
  have hql : q < h.1.length := (List.getElem?_eq_some_iff.mp hq).1
  have hkl : k < rf.length := by rw [hr.2.2.1 q ci rf hq, h0]; exact hk
  have hty : narrow (mx_ty ci k) (.ref ar) = .ref ar ∧ fits (mx_ty ci k) (.ref ar) = true := by
    unfold mx_tg mx_tgf at ht
    split at ht
    · cases ht
    · cases ht
    · next e => rw [e]; exact ⟨rfl, rfl⟩
    · next e => rw [e]; exact ⟨rfl, rfl⟩
    · cases ht
  refine va_putF (D := D) X.1 X.2.1 X.ts h1 (mx_ty ci) h2 h3 X.own X.K hr.2.2.2.1 hr.2.2.2.2.1 hr.2.2.2.2.2 q (mx_wd_get ha hq) hc k hk (X.ts _ hw) (fun _ h9 => h9) hfin hin hdc (h2 k hk) hty.1 hty.2 (by rw [mx_fs_len, h0]; exact hk) hd (fun H1 locs1 hP hD hS => ?_)
  have hq' : (h.1.set q (.inl (ci, rf.set k (some r))))[q]? = some (.inl (ci, rf.set k (some r))) := by
    rw [List.getElem?_set, if_pos rfl, if_pos hql]
  have hwd : mx_wd cy al (h.1.set q (.inl (ci, rf.set k (some r))), h.2) = (mx_wd cy al h).set q (a, .inr (ci, (mx_fs al (h.2 q) ci rf).set k (.ref ar))) := by
    refine mx_wd_set hr.1.1 (List.length_set ..) ha hq' ?_ (fun j hj => ⟨by rw [List.getElem?_set, if_neg (fun z => hj z.symm)], rfl⟩)
    show Sum.inr (ci, mx_fs al _ ci (rf.set k (some r))) = _
    refine congrArg (fun z => Sum.inr (ci, z)) (mx_fs_set (by rw [h0]; exact hk) ?_ (fun j hj => ⟨rfl, ?_⟩))
    · rw [ht, List.getD_eq_getElem?_getD, List.getElem?_set, if_pos rfl, if_pos hkl]
      unfold mx_vl
      simp only [Option.getD_some, har]
    · rw [List.getD_eq_getElem?_getD, List.getD_eq_getElem?_getD, List.getElem?_set, if_neg (fun z => hj z.symm)]
  refine kk al H1 locs1 ls _ ⟨⟨by rw [hr.1.1]; exact (List.length_set ..).symm, hr.1.2⟩, ?_, ?_, ?_, ?_, hS⟩ hl hs
  · intro q1 c1 rf1 k1 r1 e1 e2
    show r1 < (h.1.set q _).length
    rw [List.length_set]
    have e1 : (h.1.set q (.inl (ci, rf.set k (some r))))[q1]? = some (.inl (c1, rf1)) := e1
    rw [List.getElem?_set] at e1
    by_cases z : q = q1
    · subst z
      rw [if_pos rfl, if_pos hql] at e1
      cases e1
      rw [List.getD_eq_getElem?_getD, List.getElem?_set] at e2
      by_cases z2 : k = k1
      · subst z2
        rw [if_pos rfl, if_pos hkl] at e2
        cases e2
        exact hrl
      · rw [if_neg z2, ← List.getD_eq_getElem?_getD] at e2
        exact hr.2.1 q ci rf k1 r1 hq e2
    · rw [if_neg z] at e1
      exact hr.2.1 q1 c1 rf1 k1 r1 e1 e2
  · intro q1 c1 rf1 e1
    have e1 : (h.1.set q (.inl (ci, rf.set k (some r))))[q1]? = some (.inl (c1, rf1)) := e1
    rw [List.getElem?_set] at e1
    by_cases z : q = q1
    · subst z
      rw [if_pos rfl, if_pos hql] at e1
      cases e1
      rw [List.length_set]
      exact hr.2.2.1 q ci rf hq
    · rw [if_neg z] at e1
      exact hr.2.2.1 q1 c1 rf1 e1
  · rw [hwd]; exact hP
  · rw [hwd]; exact hD
theorem mx_s_iald (X : mx_X p l s m args meth c R cc nL own A D cy sp F) {q n : Nat} {i : Int} (hq : h.1[q]? = some (.inr (0, n))) (hi : mx_in i n) (hd : decode cc pc = .ok (.iaload, 1))
    (kk : mx_G p l e R s m args below meth c nL A D cy sp al0 Qe (pc + 1) L (mx_I (h.2 q (mx_at i)) :: st) h u) : mx_G p l e R s m args below meth c nL A D cy sp al0 Qe pc L (mx_I i :: mx_R q :: st) h u := by
  intro al H locs ls vs hr hl hs
  obtain ⟨_, _, rfl, rfl, _, _, rfl, ⟨a, ha, rfl⟩, hs⟩ := hs
  exact va_iald (D := D) X.1 X.2.1 X.K hr.2.2.2.1 q 0 (mx_wd_get ha hq) rfl (mx_inI hi) hd (kk al H locs ls _ hr hl ⟨_, _, rfl, rfl, hs⟩)
theorem mx_s_bald (X : mx_X p l s m args meth c R cc nL own A D cy sp F) {q n : Nat} {i : Int} (hq : h.1[q]? = some (.inr (2, n))) (hi : mx_in i n) (hd : decode cc pc = .ok (.baload, 1))
    (kk : mx_G p l e R s m args below meth c nL A D cy sp al0 Qe (pc + 1) L (mx_I (h.2 q (mx_at i)) :: st) h u) : mx_G p l e R s m args below meth c nL A D cy sp al0 Qe pc L (mx_I i :: mx_R q :: st) h u := by
  intro al H locs ls vs hr hl hs
  obtain ⟨_, _, rfl, rfl, _, _, rfl, ⟨a, ha, rfl⟩, hs⟩ := hs
  exact va_zald (D := D) X.1 X.2.1 X.K hr.2.2.2.1 q 2 (mx_wd_get ha hq) rfl (mx_inI hi) hd (kk al H locs ls _ hr hl ⟨_, _, rfl, rfl, hs⟩)
theorem mx_s_lald (X : mx_X p l s m args meth c R cc nL own A D cy sp F) {q n : Nat} {i : Int} (hq : h.1[q]? = some (.inr (1, n))) (hi : mx_in i n) (hd : decode cc pc = .ok (.laload, 1))
    (kk : mx_G p l e R s m args below meth c nL A D cy sp al0 Qe (pc + 1) L (mx_J (h.2 q (mx_at i)) :: st) h u) : mx_G p l e R s m args below meth c nL A D cy sp al0 Qe pc L (mx_I i :: mx_R q :: st) h u := by
  intro al H locs ls vs hr hl hs
  obtain ⟨_, _, rfl, rfl, _, _, rfl, ⟨a, ha, rfl⟩, hs⟩ := hs
  exact va_lald (D := D) X.1 X.2.1 X.K hr.2.2.2.1 q 1 (mx_wd_get ha hq) rfl (mx_inI hi) hd (kk al H locs ls _ hr hl ⟨_, _, rfl, rfl, hs⟩)
/-- a row outside the cells -/
theorem mx_s_ialdS (X : mx_X p l s m args meth c R cc nL own A D cy sp F) {q n : Nat} {f : Nat → Int} {i : Int} (hq : F.1 q = some (n, f)) (hi : mx_in i n) (hd : decode cc pc = .ok (.iaload, 1))
    (kk : mx_G p l e R s m args below meth c nL A D cy sp al0 Qe (pc + 1) L (mx_I (f (mx_at i)) :: st) h u) : mx_G p l e R s m args below meth c nL A D cy sp al0 Qe pc L (mx_I i :: mx_S q :: st) h u := by
  intro al H locs ls vs hr hl hs
  obtain ⟨_, _, rfl, rfl, _, _, rfl, rfl, hs⟩ := hs
  obtain ⟨h1, h2, -, h3⟩ := X.env.1 q n f hq
  exact va_sld X.1 X.2.1 h3 h1 h2 hr.2.2.2.2.2 (mx_inI hi) hd (kk al H locs ls _ hr hl ⟨_, _, rfl, rfl, hs⟩)
theorem mx_s_alenS (X : mx_X p l s m args meth c R cc nL own A D cy sp F) {q n : Nat} {f : Nat → Int} (hq : F.1 q = some (n, f)) (hd : decode cc pc = .ok (.arraylength, 1))
    (kk : mx_G p l e R s m args below meth c nL A D cy sp al0 Qe (pc + 1) L (mx_I n :: st) h u) : mx_G p l e R s m args below meth c nL A D cy sp al0 Qe pc L (mx_S q :: st) h u := by
  intro al H locs ls vs hr hl hs
  obtain ⟨_, _, rfl, rfl, hs⟩ := hs
  obtain ⟨h1, h2, -, h3⟩ := X.env.1 q n f hq
  exact va_slen X.1 X.2.1 h3 h1 h2 hr.2.2.2.2.2 hd (kk al H locs ls _ hr hl ⟨_, _, rfl, rfl, hs⟩)
theorem mx_s_alen (X : mx_X p l s m args meth c R cc nL own A D cy sp F) {q t n : Nat} (hq : h.1[q]? = some (.inr (t, n))) (hd : decode cc pc = .ok (.arraylength, 1))
    (kk : mx_G p l e R s m args below meth c nL A D cy sp al0 Qe (pc + 1) L (mx_I n :: st) h u) : mx_G p l e R s m args below meth c nL A D cy sp al0 Qe pc L (mx_R q :: st) h u := by
  intro al H locs ls vs hr hl hs
  obtain ⟨_, _, rfl, ⟨a, ha, rfl⟩, hs⟩ := hs
  match t, hq with
  | 0, hq => exact va_alen (D := D) X.1 X.2.1 X.K hr.2.2.2.1 q 0 (mx_wd_get ha hq) rfl rfl hd (kk al H locs ls _ hr hl ⟨_, _, rfl, rfl, hs⟩)
  | 1, hq => exact va_alen (D := D) X.1 X.2.1 X.K hr.2.2.2.1 q 1 (mx_wd_get ha hq) rfl rfl hd (kk al H locs ls _ hr hl ⟨_, _, rfl, rfl, hs⟩)
  | t + 2, hq => exact va_alen (D := D) X.1 X.2.1 X.K hr.2.2.2.1 q 2 (mx_wd_get ha hq) rfl rfl hd (kk al H locs ls _ hr hl ⟨_, _, rfl, rfl, hs⟩)
theorem mx_up_ne (f : Nat → Nat → Int) {q q' : Nat} (i : Nat) (n : Int) (hq : q' ≠ q) : mx_up f q i n q' = f q' := funext fun _ => if_neg (fun z => hq z.1)
theorem mx_s_iast (X : mx_X p l s m args meth c R cc nL own A D cy sp F) {q n : Nat} {i x : Int} (hq : h.1[q]? = some (.inr (0, n))) (hi : mx_in i n) (hd : decode cc pc = .ok (.iastore, 1))
    (kk : mx_G p l e R s m args below meth c nL A D cy sp al0 Qe (pc + 1) L st (h.1, mx_up h.2 q (mx_at i) x) u) : mx_G p l e R s m args below meth c nL A D cy sp al0 Qe pc L (mx_I x :: mx_I i :: mx_R q :: st) h u := by
  intro al H locs ls vs hr hl hs
  obtain ⟨_, _, rfl, rfl, _, _, rfl, rfl, _, _, rfl, ⟨a, ha, rfl⟩, hs⟩ := hs
  refine va_iast (D := D) X.1 X.2.1 X.K hr.2.2.2.1 hr.2.2.2.2.1 hr.2.2.2.2.2 q 0 (mx_wd_get ha hq) rfl (mx_inI hi) hd (fun H1 locs1 hP hD hS => ?_)
  have hwd : mx_wd cy al (h.1, mx_up h.2 q (mx_at i) x) = (mx_wd cy al h).set q (a, .inl (cy 0, n, .inl (upd (fun j => Int32.ofInt (h.2 q j)) (mx_at i) (Int32.ofInt x)))) := by
    refine mx_wd_set hr.1.1 rfl ha hq ?_ (fun j hj => ⟨rfl, mx_up_ne _ _ _ hj⟩)
    show Sum.inl (cy 0, n, Sum.inl fun j => Int32.ofInt (mx_up h.2 q (mx_at i) x q j)) = _
    refine congrArg (fun z => Sum.inl (cy 0, n, Sum.inl z)) (funext fun j => ?_)
    unfold upd mx_up
    by_cases e : j = mx_at i
    · rw [if_pos ⟨rfl, e⟩, if_pos e]
    · rw [if_neg (fun z => e z.2), if_neg e]
  refine kk al H1 locs1 ls _ ⟨hr.1, hr.2.1, hr.2.2.1, ?_, ?_, hS⟩ hl hs
  · rw [hwd]; exact hP
  · rw [hwd]; exact hD
theorem mx_s_bast (X : mx_X p l s m args meth c R cc nL own A D cy sp F) {q n : Nat} {i x : Int} (hq : h.1[q]? = some (.inr (2, n))) (hi : mx_in i n) (hx : w32 x = 0 ∨ w32 x = 1) (hd : decode cc pc = .ok (.bastore, 1))
    (kk : mx_G p l e R s m args below meth c nL A D cy sp al0 Qe (pc + 1) L st (h.1, mx_up h.2 q (mx_at i) x) u) : mx_G p l e R s m args below meth c nL A D cy sp al0 Qe pc L (mx_I x :: mx_I i :: mx_R q :: st) h u := by
  intro al H locs ls vs hr hl hs
  obtain ⟨_, _, rfl, rfl, _, _, rfl, rfl, _, _, rfl, ⟨a, ha, rfl⟩, hs⟩ := hs
  have hn : vp_nar .boolean (Int32.ofInt x) = Int32.ofInt x := by rcases mx_bool hx with e | e <;> rw [e] <;> rfl
  refine va_zast (D := D) X.1 X.2.1 X.K hr.2.2.2.1 hr.2.2.2.2.1 hr.2.2.2.2.2 q 2 (mx_wd_get ha hq) rfl (mx_inI hi) hd (fun H1 locs1 hP hD hS => ?_)
  rw [hn] at hP hD
  have hwd : mx_wd cy al (h.1, mx_up h.2 q (mx_at i) x) = (mx_wd cy al h).set q (a, .inl (cy 2, n, .inl (upd (fun j => Int32.ofInt (h.2 q j)) (mx_at i) (Int32.ofInt x)))) := by
    refine mx_wd_set hr.1.1 rfl ha hq ?_ (fun j hj => ⟨rfl, mx_up_ne _ _ _ hj⟩)
    show Sum.inl (cy 2, n, Sum.inl fun j => Int32.ofInt (mx_up h.2 q (mx_at i) x q j)) = _
    refine congrArg (fun z => Sum.inl (cy 2, n, Sum.inl z)) (funext fun j => ?_)
    unfold upd mx_up
    by_cases e : j = mx_at i
    · rw [if_pos ⟨rfl, e⟩, if_pos e]
    · rw [if_neg (fun z => e z.2), if_neg e]
  refine kk al H1 locs1 ls _ ⟨hr.1, hr.2.1, hr.2.2.1, ?_, ?_, hS⟩ hl hs
  · rw [hwd]; exact hP
  · rw [hwd]; exact hD
theorem mx_s_last (X : mx_X p l s m args meth c R cc nL own A D cy sp F) {q n : Nat} {i x : Int} (hq : h.1[q]? = some (.inr (1, n))) (hi : mx_in i n) (hd : decode cc pc = .ok (.lastore, 1))
    (kk : mx_G p l e R s m args below meth c nL A D cy sp al0 Qe (pc + 1) L st (h.1, mx_up h.2 q (mx_at i) x) u) : mx_G p l e R s m args below meth c nL A D cy sp al0 Qe pc L (mx_J x :: mx_I i :: mx_R q :: st) h u := by
  intro al H locs ls vs hr hl hs
  obtain ⟨_, _, rfl, rfl, _, _, rfl, rfl, _, _, rfl, ⟨a, ha, rfl⟩, hs⟩ := hs
  refine va_last (D := D) X.1 X.2.1 X.K hr.2.2.2.1 hr.2.2.2.2.1 hr.2.2.2.2.2 q 1 (mx_wd_get ha hq) rfl (mx_inI hi) hd (fun H1 locs1 hP hD hS => ?_)
  have hwd : mx_wd cy al (h.1, mx_up h.2 q (mx_at i) x) = (mx_wd cy al h).set q (a, .inl (cy 1, n, .inr (.inl (vp_updL (fun j => Int64.ofInt (h.2 q j)) (mx_at i) (Int64.ofInt x))))) := by
    refine mx_wd_set hr.1.1 rfl ha hq ?_ (fun j hj => ⟨rfl, mx_up_ne _ _ _ hj⟩)
    show Sum.inl (cy 1, n, Sum.inr (Sum.inl fun j => Int64.ofInt (mx_up h.2 q (mx_at i) x q j))) = _
    refine congrArg (fun z => Sum.inl (cy 1, n, Sum.inr (Sum.inl z))) (funext fun j => ?_)
    unfold vp_updL mx_up
    by_cases e : j = mx_at i
    · rw [if_pos ⟨rfl, e⟩, if_pos e]
    · rw [if_neg (fun z => e z.2), if_neg e]
  refine kk al H1 locs1 ls _ ⟨hr.1, hr.2.1, hr.2.2.1, ?_, ?_, hS⟩ hl hs
  · rw [hwd]; exact hP
  · rw [hwd]; exact hD
theorem mx_str {q : Nat} (h : (Nat.ble 10 q && Nat.ble q 36) = true) : ∃ k, k < 27 ∧ q = 10 + k := by
  simp only [Bool.and_eq_true, Nat.ble_eq] at h
  exact ⟨q - 10, by omega, by omega⟩
theorem mx_sB_of {q n : Nat} {f : Nat → Int} (h : mx_sB q = some (n, f)) : ∃ k, k < 27 ∧ q = 100 + k ∧ n = (mx_tx.getD k []).length ∧ f = fun j => (mx_tx.getD k []).getD j 0 := by
  unfold mx_sB at h
  split at h
  · next h1 =>
    simp only [Bool.and_eq_true, Nat.ble_eq] at h1
    cases h
    exact ⟨q - 100, by omega, by omega, rfl, rfl⟩
  · cases h
theorem mx_s_getSv (X : mx_X p l s m args meth c R cc nL own A D cy sp F) {q idx : Nat} (hq : (Nat.ble 10 q && Nat.ble q 36) = true) (hw : Cond.fieldLink own idx "java/lang/String" "value" "[B" ∈ mx_Ts) (hd : decode cc pc = .ok (.getfield idx, 3))
    (kk : mx_G p l e R s m args below meth c nL A D cy sp al0 Qe (pc + 3) L (mx_S (q + 90) :: st) h u) : mx_G p l e R s m args below meth c nL A D cy sp al0 Qe pc L (mx_S q :: st) h u := by
  intro al H locs ls vs hr hl hs
  obtain ⟨_, _, rfl, rfl, hs⟩ := hs
  obtain ⟨k, hk, rfl⟩ := mx_str hq
  exact vk_getf X.1 X.2.1 (X.env.2.2.2.2.2.2.2.1 k hk).2.2.2.1 hr.2.2.2.2.2 X.own (X.ts _ hw) (fun _ h9 => h9) hd (kk al H locs ls _ hr hl ⟨_, _, rfl, by rw [show 10 + k + 90 = 100 + k by omega]; rfl, hs⟩)
theorem mx_s_getSc (X : mx_X p l s m args meth c R cc nL own A D cy sp F) {q idx : Nat} (hq : (Nat.ble 10 q && Nat.ble q 36) = true) (hw : Cond.fieldLink own idx "java/lang/String" "coder" "B" ∈ mx_Ts) (hd : decode cc pc = .ok (.getfield idx, 3))
    (kk : mx_G p l e R s m args below meth c nL A D cy sp al0 Qe (pc + 3) L (mx_I 0 :: st) h u) : mx_G p l e R s m args below meth c nL A D cy sp al0 Qe pc L (mx_S q :: st) h u := by
  intro al H locs ls vs hr hl hs
  obtain ⟨_, _, rfl, rfl, hs⟩ := hs
  obtain ⟨k, hk, rfl⟩ := mx_str hq
  exact vk_getf X.1 X.2.1 (X.env.2.2.2.2.2.2.2.1 k hk).2.2.1 hr.2.2.2.2.2 X.own (X.ts _ hw) (fun _ h9 => h9) hd (kk al H locs ls _ hr hl ⟨_, _, rfl, rfl, hs⟩)
theorem mx_s_baldS (X : mx_X p l s m args meth c R cc nL own A D cy sp F) {q n : Nat} {f : Nat → Int} {i : Int} (hq : mx_sB q = some (n, f)) (hi : mx_in i n) (hd : decode cc pc = .ok (.baload, 1))
    (kk : mx_G p l e R s m args below meth c nL A D cy sp al0 Qe (pc + 1) L (mx_I (f (mx_at i)) :: st) h u) : mx_G p l e R s m args below meth c nL A D cy sp al0 Qe pc L (mx_I i :: mx_S q :: st) h u := by
  intro al H locs ls vs hr hl hs
  obtain ⟨_, _, rfl, rfl, _, _, rfl, rfl, hs⟩ := hs
  obtain ⟨k, hk, rfl, rfl, rfl⟩ := mx_sB_of hq
  exact va_tb X.1 X.2.1 (X.env.2.2.2.2.2.2.2.1 k hk).2.2.2.2 hr.2.2.2.2.2 (mx_inI hi) rfl hd (kk al H locs ls _ hr hl ⟨_, _, rfl, rfl, hs⟩)
theorem mx_s_alenT (X : mx_X p l s m args meth c R cc nL own A D cy sp F) {q n : Nat} {f : Nat → Int} (hq : mx_sB q = some (n, f)) (hd : decode cc pc = .ok (.arraylength, 1))
    (kk : mx_G p l e R s m args below meth c nL A D cy sp al0 Qe (pc + 1) L (mx_I n :: st) h u) : mx_G p l e R s m args below meth c nL A D cy sp al0 Qe pc L (mx_S q :: st) h u := by
  intro al H locs ls vs hr hl hs
  obtain ⟨_, _, rfl, rfl, hs⟩ := hs
  obtain ⟨k, hk, rfl, rfl, rfl⟩ := mx_sB_of hq
  exact va_tlen X.1 X.2.1 (X.env.2.2.2.2.2.2.2.1 k hk).2.2.2.2 hr.2.2.2.2.2 rfl hd (kk al H locs ls _ hr hl ⟨_, _, rfl, rfl, hs⟩)
theorem mx_s_ldcS (X : mx_X p l s m args meth c R cc nL own A D cy sp F) {k idx : Nat} (hk : k < 27) (ho : (mx_so k).1 = own ∧ (mx_so k).2.1 = idx) (hd : decode cc pc = .ok (.ldc idx, 2)) (kk : mx_G p l e R s m args below meth c nL A D cy sp al0 Qe (pc + 2) L (mx_S (10 + k) :: st) h u) : mx_G p l e R s m args below meth c nL A D cy sp al0 Qe pc L st h u := by
  intro al H locs ls vs hr hl hs
  have hR := (X.env.2.2.2.2.2.2.2.1 k hk).1
  rw [ho.1, ho.2] at hR
  exact va_ldcS X.1 X.2.1 X.own hR hd (kk al H locs ls _ hr hl ⟨_, _, rfl, rfl, hs⟩)
theorem mx_s_ldcSW (X : mx_X p l s m args meth c R cc nL own A D cy sp F) {k idx : Nat} (hk : k < 27) (ho : (mx_so k).1 = own ∧ (mx_so k).2.1 = idx) (hd : decode cc pc = .ok (.ldc_w idx, 3)) (kk : mx_G p l e R s m args below meth c nL A D cy sp al0 Qe (pc + 3) L (mx_S (10 + k) :: st) h u) : mx_G p l e R s m args below meth c nL A D cy sp al0 Qe pc L st h u := by
  intro al H locs ls vs hr hl hs
  have hR := (X.env.2.2.2.2.2.2.2.1 k hk).1
  rw [ho.1, ho.2] at hR
  have kk := kk al H locs ls (.ref (sp (10 + k)) :: vs) hr hl ⟨_, _, rfl, rfl, hs⟩
  intro T hT XT
  obtain ⟨t, a1, b1⟩ := kk T hT XT
  exact ⟨t, XT.ldcStringW X.1 X.own (text := (mx_so k).2.2) (a := sp (10 + k)) (by exact hR.1) (by exact hR.2) (g := F0 m pc ls vs) rfl (by rw [X.2.1]; exact hd) t a1, b1⟩
theorem mx_s_getsZ (X : mx_X p l s m args meth c R cc nL own A D cy sp F) {idx : Nat} (hw : Cond.fieldLink own idx "java/lang/String" "COMPACT_STRINGS" "Z" ∈ mx_Ts) (hd : decode cc pc = .ok (.getstatic idx, 3))
    (kk : mx_G p l e R s m args below meth c nL A D cy sp al0 Qe (pc + 3) L (mx_I 1 :: st) h u) : mx_G p l e R s m args below meth c nL A D cy sp al0 Qe pc L st h u := by
  intro al H locs ls vs hr hl hs
  exact va_gets X.1 X.2.1 X.env.2.2.2.2.2.2.2.2.1 hr.2.2.2.2.2 X.own (X.ts _ hw) (fun _ h9 => h9) hd (kk al H locs ls _ hr hl ⟨_, _, rfl, rfl, hs⟩)
theorem mx_s_getsF (X : mx_X p l s m args meth c R cc nL own A D cy sp F) {idx : Nat} (hw : Cond.fieldLink own idx "jdk/internal/util/Preconditions" "SIOOBE_FORMATTER" "Ljava/util/function/BiFunction;" ∈ mx_Ts) (hd : decode cc pc = .ok (.getstatic idx, 3))
    (k1 : mx_G p l e R s m args below meth c nL A D cy sp al0 Qe (pc + 3) L (mx_Z :: st) h u) (k2 : mx_G p l e R s m args below meth c nL A D cy sp al0 Qe (pc + 3) L (mx_S 200 :: st) h u) : mx_G p l e R s m args below meth c nL A D cy sp al0 Qe pc L st h u := by
  intro al H locs ls vs hr hl hs
  rcases X.env.2.2.2.2.2.2.2.2.2 with hz | hz
  · exact va_gets X.1 X.2.1 hz hr.2.2.2.2.2 X.own (X.ts _ hw) (fun _ h9 => h9) hd (k1 al H locs ls _ hr hl ⟨_, _, rfl, rfl, hs⟩)
  · exact va_gets X.1 X.2.1 hz hr.2.2.2.2.2 X.own (X.ts _ hw) (fun _ h9 => h9) hd (k2 al H locs ls _ hr hl ⟨_, _, rfl, rfl, hs⟩)
theorem mx_nn {x : Int} (h : 0 ≤ w32 x) : ¬ Int32.ofInt x < 0 := fun z => by
  have z := Int32.lt_iff_toInt_lt.mp z
  have z2 : (0 : Int32).toInt = 0 := rfl
  rw [z2] at z
  have z3 : w32 x < 0 := z
  omega
theorem mx_cpy_ne (g : Nat → Nat → Int) {a b q : Nat} (x y n : Nat) (hq : q ≠ b) : mx_cpy g a b x y n q = g q := funext fun _ => if_neg (fun z => hq z.1)
theorem mx_s_copy (X : mx_X p l s m args meth c R cc nL own A D cy sp F) {t a b na nb idx : Nat} {n dp x : Int} (ht : t = 0 ∨ t = 1) (ha : h.1[a]? = some (.inr (t, na))) (hb : h.1[b]? = some (.inr (t, nb))) (hx : 0 ≤ w32 x) (hdp : 0 ≤ w32 dp) (hn : 0 ≤ w32 n) (h1 : w32 x + w32 n ≤ (na : Int)) (h2 : w32 dp + w32 n ≤ (nb : Int)) (hst : mx_wt st ≤ 8)
    (hw1 : Cond.methodLink own idx arraycopyName ∈ mx_Ts) (hw2 : Cond.native arraycopyName ∈ mx_Ts) (hw3 : Cond.static arraycopyName ∈ mx_Ts) (hw4 : Cond.initialized "java/lang/System" ∈ mx_Ts) (hd : decode cc pc = .ok (.invokestatic idx, 3))
    (kk : mx_G p l e R s m args below meth c nL A D cy sp al0 Qe (pc + 3) L st (h.1, mx_cpy h.2 a b (mx_at x) (mx_at dp) (mx_at n)) u) : mx_G p l e R s m args below meth c nL A D cy sp al0 Qe pc L (mx_I n :: mx_I dp :: mx_R b :: mx_I x :: mx_R a :: st) h u := by
  intro al H locs ls vs hr hl hs
  obtain ⟨_, _, rfl, rfl, _, _, rfl, rfl, _, _, rfl, ⟨ab, hab, rfl⟩, _, _, rfl, rfl, _, ws9, rfl, ⟨aa, haa, rfl⟩, hs⟩ := hs
  have hfr := X.2.2.2.2.2.2.2.2.2.2.2.1
  have hlo := X.2.2.2.2.2.2.2.2.2.2.2.2.1
  have hloc : (ws9.map fun v => v.category).sum + (nativeFrameWords "java/lang/System" "arraycopy" 5 + 11) ≤ R.locals := by
    rw [hs.wt]
    have hz : nativeFrameWords "java/lang/System" "arraycopy" 5 + 11 ≤ 100 := by decide
    omega
  have e1 : mx_at x + mx_at n ≤ na := by unfold mx_at; omega
  have e2 : mx_at dp + mx_at n ≤ nb := by unfold mx_at; omega
  rcases ht with rfl | rfl
  · refine va_copyi (D := D) X.1 X.2.1 (X.2.2.1.trans hl.1.symm) X.own (X.ts _ hw1) (X.ts _ hw2) (X.ts _ hw3) (X.ts _ hw4) X.K hr.2.2.2.1 hr.2.2.2.2.1 hr.2.2.2.2.2 a b 0 0 (ty := .int) (mx_wd_get haa ha) (mx_wd_get hab hb) rfl rfl rfl (mx_nn hx) (mx_nn hdp) (mx_nn hn) e1 e2 (fun _ _ => rfl) (by omega) hloc hd (fun H1 locs1 hP hD hS => ?_)
    have hwd : mx_wd cy al (h.1, mx_cpy h.2 a b (mx_at x) (mx_at dp) (mx_at n)) = (mx_wd cy al h).set b (ab, .inl (cy 0, nb, .inl (va_cpy (fun j => Int32.ofInt (h.2 a j)) (fun j => Int32.ofInt (h.2 b j)) (mx_at x) (mx_at dp) (mx_at n)))) := by
      refine mx_wd_set hr.1.1 rfl hab hb ?_ (fun j hj => ⟨rfl, mx_cpy_ne _ _ _ _ hj⟩)
      show Sum.inl (cy 0, nb, Sum.inl fun j => Int32.ofInt (mx_cpy h.2 a b (mx_at x) (mx_at dp) (mx_at n) b j)) = _
      refine congrArg (fun z => Sum.inl (cy 0, nb, Sum.inl z)) (funext fun j => ?_)
      unfold va_cpy mx_cpy
      by_cases e : mx_at dp ≤ j ∧ j < mx_at dp + mx_at n
      · rw [if_pos ⟨rfl, e⟩, if_pos e]
      · rw [if_neg (fun z => e z.2), if_neg e]
    refine kk al H1 locs1 ls _ ⟨hr.1, hr.2.1, hr.2.2.1, ?_, ?_, hS⟩ hl hs
    · rw [hwd]; exact hP
    · rw [hwd]; exact hD
  · refine va_copyl (D := D) X.1 X.2.1 (X.2.2.1.trans hl.1.symm) X.own (X.ts _ hw1) (X.ts _ hw2) (X.ts _ hw3) (X.ts _ hw4) X.K hr.2.2.2.1 hr.2.2.2.2.1 hr.2.2.2.2.2 a b 1 1 (ty := .long) (mx_wd_get haa ha) (mx_wd_get hab hb) rfl rfl rfl (mx_nn hx) (mx_nn hdp) (mx_nn hn) e1 e2 (fun _ _ => rfl) (by omega) hloc hd (fun H1 locs1 hP hD hS => ?_)
    have hwd : mx_wd cy al (h.1, mx_cpy h.2 a b (mx_at x) (mx_at dp) (mx_at n)) = (mx_wd cy al h).set b (ab, .inl (cy 1, nb, .inr (.inl (va_cpy (fun j => Int64.ofInt (h.2 a j)) (fun j => Int64.ofInt (h.2 b j)) (mx_at x) (mx_at dp) (mx_at n))))) := by
      refine mx_wd_set hr.1.1 rfl hab hb ?_ (fun j hj => ⟨rfl, mx_cpy_ne _ _ _ _ hj⟩)
      show Sum.inl (cy 1, nb, Sum.inr (Sum.inl fun j => Int64.ofInt (mx_cpy h.2 a b (mx_at x) (mx_at dp) (mx_at n) b j))) = _
      refine congrArg (fun z => Sum.inl (cy 1, nb, Sum.inr (Sum.inl z))) (funext fun j => ?_)
      unfold va_cpy mx_cpy
      by_cases e : mx_at dp ≤ j ∧ j < mx_at dp + mx_at n
      · rw [if_pos ⟨rfl, e⟩, if_pos e]
      · rw [if_neg (fun z => e z.2), if_neg e]
    refine kk al H1 locs1 ls _ ⟨hr.1, hr.2.1, hr.2.2.1, ?_, ?_, hS⟩ hl hs
    · rw [hwd]; exact hP
    · rw [hwd]; exact hD
end MXM
