/-! rows of the instructions that make cells, of constants, switches -/
/-- a cell comes to the end -/
theorem mx_en_more {cy : Nat → ClassId} {al b : List Nat} {g : Nat → Int} {d : mx_d} (h : ∀ (ci : Nat) (rf : List (Option Nat)) (k r : Nat), d = .inl (ci, rf) → rf.getD k none = some r → r < al.length) : mx_en cy (al ++ b) g d = mx_en cy al g d := by
  unfold mx_en
  split
  · next ci rf =>
    refine congrArg (fun z => Sum.inr (ci, z)) ?_
    unfold mx_fs
    apply List.map_congr_left
    intro k _
    unfold mx_vl
    split
    · rfl
    · cases hr : rf.getD k none with
      | none => rfl
      | some r =>
        have := h ci rf k r rfl hr
        simp only [List.getElem?_append_left this]
    · rfl
  · rfl
  · rfl
  · rfl
theorem mx_wd_push {cy : Nat → ClassId} {al : List Nat} {h : mx_H} {a : Nat} {d : mx_d} (hl : al.length = h.1.length) (hw : mx_wf h.1) : mx_wd cy (al ++ [a]) (h.1 ++ [d], fun x y => if x = h.1.length then 0 else h.2 x y) = mx_wd cy al h ++ [(a, mx_en cy (al ++ [a]) (fun _ => 0) d)] := by
  apply List.ext_getElem?
  intro k
  by_cases hk : k < al.length
  · have e1 : al[k]? = some (al[k]'hk) := List.getElem?_eq_getElem hk
    have e2 : h.1[k]? = some (h.1[k]'(by omega)) := List.getElem?_eq_getElem (by omega)
    rw [List.getElem?_append_left (by rw [mx_wd_len hl]; exact hk), mx_wd_get e1 e2, mx_wd_get (by rw [List.getElem?_append_left hk]; exact e1) (show (h.1 ++ [d])[k]? = _ by rw [List.getElem?_append_left (by omega)]; exact e2)]
    rw [mx_en_more (fun ci rf j r e3 e4 => by rw [hl]; exact hw k ci rf j r (by rw [e2, e3]) e4)]
    have e5 : (fun y => if k = h.1.length then 0 else h.2 k y) = h.2 k := funext fun y => if_neg (by omega)
    show some (_, mx_en cy al (fun y => if k = h.1.length then 0 else h.2 k y) _) = _
    rw [e5]
  · by_cases hk2 : k = al.length
    · subst hk2
      rw [List.getElem?_append_right (by rw [mx_wd_len hl]; exact Nat.le_refl _), mx_wd_len hl, Nat.sub_self]
      rw [mx_wd_get (a := a) (d := d) (by rw [List.getElem?_append_right (Nat.le_refl _), Nat.sub_self]; rfl) (show (h.1 ++ [d])[al.length]? = _ by rw [List.getElem?_append_right (by omega), hl, Nat.sub_self]; rfl)]
      have e5 : (fun y => if al.length = h.1.length then (0 : Int) else h.2 al.length y) = fun _ => 0 := funext fun y => if_pos hl
      show some (_, mx_en cy (al ++ [a]) (fun y => if al.length = h.1.length then 0 else h.2 al.length y) _) = _
      rw [e5]
      rfl
    · rw [List.getElem?_eq_none (by rw [mx_wd_len (by simp [hl]), List.length_append, List.length_singleton]; omega), List.getElem?_eq_none (by rw [List.length_append, mx_wd_len hl, List.length_singleton]; omega)]
theorem mx_wf_push {sh : List mx_d} {d : mx_d} (h : mx_wf sh) (hd : ∀ (ci : Nat) (rf : List (Option Nat)) (k r : Nat), d = .inl (ci, rf) → rf.getD k none = some r → False) : mx_wf (sh ++ [d]) := by
  intro q ci rf k r h1 h2
  rw [List.length_append, List.length_singleton]
  by_cases hq : q < sh.length
  · rw [List.getElem?_append_left hq] at h1
    have := h q ci rf k r h1 h2
    omega
  · rw [List.getElem?_append_right (by omega)] at h1
    have hz : q - sh.length < 1 := (List.getElem?_eq_some_iff.mp h1).1
    rw [show q - sh.length = 0 by omega] at h1
    exact (hd ci rf k r (Option.some.inj h1) h2).elim
theorem mx_wl_push {sh : List mx_d} {d : mx_d} (h : mx_wl sh) (hd : ∀ (ci : Nat) (rf : List (Option Nat)), d = .inl (ci, rf) → rf.length = mx_ns ci) : mx_wl (sh ++ [d]) := by
  intro q ci rf h1
  by_cases hq : q < sh.length
  · rw [List.getElem?_append_left hq] at h1
    exact h q ci rf h1
  · rw [List.getElem?_append_right (by omega)] at h1
    have hz : q - sh.length < 1 := (List.getElem?_eq_some_iff.mp h1).1
    rw [show q - sh.length = 0 by omega] at h1
    exact hd ci rf (Option.some.inj h1)
theorem mx_rep_none {n k : Nat} : (List.replicate n (none : Option Nat)).getD k none = none := by
  rw [List.getD_eq_getElem?_getD]
  by_cases h : k < n
  · rw [List.getElem?_replicate, if_pos h]; rfl
  · rw [List.getElem?_replicate, if_neg h]; rfl
theorem mx_fs_none {al : List Nat} {g : Nat → Int} {ci n : Nat} : mx_fs al g ci (List.replicate n none) = mx_fs [] g ci (List.replicate n none) := by
  unfold mx_fs
  apply List.map_congr_left
  intro k _
  rw [mx_rep_none]
  unfold mx_vl
  rfl
/-- a field's first value -/
theorem mx_df {ty : FieldType} (h : ty = .int ∨ ty = .long ∨ ty = .boolean ∨ mx_tgf ty = 3) : defaultValue ty = mx_vl [] (mx_tgf ty) 0 none := by
  rcases h with rfl | rfl | rfl | h
  · rfl
  · rfl
  · rfl
  · unfold mx_tgf at h
    split at h
    · cases h
    · cases h
    · rfl
    · rfl
    · cases h
theorem mx_lk (df k : Int) : ∀ (l : List (Int × Int)), (¬ (∃ q ∈ l, q.1 = k) ∧ Op.lookupswitch.offset l df k = df) ∨ ∃ (j : Nat) (q : Int × Int), l[j]? = some q ∧ q.1 = k ∧ Op.lookupswitch.offset l df k = q.2
  | [] => Or.inl ⟨(fun ⟨_, h, _⟩ => nomatch h), rfl⟩
  | (a, o) :: r => by
    rw [Op.lookupswitch.offset_cons]
    by_cases h : a = k
    · rw [if_pos h]
      exact Or.inr ⟨0, (a, o), rfl, h, rfl⟩
    · rw [if_neg h]
      rcases mx_lk df k r with ⟨h1, h2⟩ | ⟨j, q, h1, h2, h3⟩
      · refine Or.inl ⟨fun ⟨q, hq, e⟩ => ?_, h2⟩
        rcases List.mem_cons.mp hq with rfl | hq
        · exact h e
        · exact h1 ⟨q, hq, e⟩
      · exact Or.inr ⟨j + 1, q, h1, h2, h3⟩
section MXN
variable {p : Program} {l : Launch} {e : Env} {R : Room} {s : State} {m : MethodId} {args : Array Value} {below : List Frame} {meth : Method} {c : Code} {cc : ByteArray} {nL : Nat} {own : String} {A : Nat → Prop} {D : va_G} {cy : Nat → ClassId} {sp : Nat → Nat} {F : mx_F} {al0 : List Nat} {Qe : State → Prop} {pc : Nat} {L : mx_L} {st : List mx_v} {h : mx_H} {u : Nat × Nat}
theorem mx_s_new (X : mx_X p l s m args meth c R cc nL own A D cy sp F) {ci N idx : Nat} {C : String} {T : u_T} (hc : vwCl[ci]? = some (C, T, N)) (hw : Cond.classLink own idx C ∈ mx_Ts) (hw2 : Cond.instantiable C N ∈ mx_Ts) (hw3 : Cond.initialized C ∈ mx_Ts) (hty : ∀ k, k < N → mx_ty ci k = .int ∨ mx_ty ci k = .long ∨ mx_ty ci k = .boolean ∨ mx_tg ci k = 3)
    (hu : u.1 + 1 ≤ F.2.2.1) (hu2 : u.2 + N ≤ F.2.2.2) (hd : decode cc pc = .ok (.new idx, 3))
    (kk : mx_G p l e R s m args below meth c nL A D cy sp al0 Qe (pc + 3) L (mx_R h.1.length :: st) (h.1 ++ [.inl (ci, List.replicate N none)], fun a b => if a = h.1.length then 0 else h.2 a b) (u.1 + 1, u.2 + N)) : mx_G p l e R s m args below meth c nL A D cy sp al0 Qe pc L st h u := by
  intro al H locs ls vs hr hl hs
  obtain ⟨h0, h1, h2, h3⟩ := mx_cls hc
  refine va_new (D := D) (fs := mx_fs [] (fun _ => 0) ci (List.replicate N none)) X.1 X.2.1 X.ts h1 (mx_ty ci) h2 X.own (X.ts _ hw) (X.ts _ hw2) (X.ts _ hw3) X.K hr.2.2.2.1 hr.2.2.2.2.1 hr.2.2.2.2.2 X.A hc (fun j hj => ?_) (Nat.le_trans hu X.2.2.2.2.2.2.2.1) (Nat.le_trans hu2 X.2.2.2.2.2.2.2.2.1) hd (fun q H1 hP hD hS => ?_)
  · unfold vp_V
    rw [List.getD_eq_getElem?_getD, mx_fs_get (by rw [h0]; exact hj), mx_rep_none]
    exact mx_df (hty j hj)
  · have hwd : mx_wd cy (al ++ [q]) (h.1 ++ [.inl (ci, List.replicate N none)], fun a b => if a = h.1.length then 0 else h.2 a b) = mx_wd cy al h ++ [(q, .inr (ci, mx_fs [] (fun _ => 0) ci (List.replicate N none)))] := by
      rw [mx_wd_push hr.1.1 hr.2.1]
      show _ ++ [(q, Sum.inr (ci, mx_fs (al ++ [q]) (fun _ => 0) ci (List.replicate N none)))] = _
      rw [mx_fs_none]
    refine kk (al ++ [q]) H1 locs ls _ ⟨?_, ?_, ?_, ?_, ?_, hS⟩ (hl.more ⟨_, rfl⟩) ⟨_, _, rfl, ⟨q, ?_, rfl⟩, hs.more ⟨_, rfl⟩⟩
    · refine ⟨by rw [List.length_append, List.length_append, hr.1.1]; rfl, ?_⟩
      obtain ⟨b, hb⟩ := hr.1.2
      exact ⟨b ++ [q], by rw [hb, List.append_assoc]⟩
    · exact mx_wf_push hr.2.1 (fun c1 r1 k1 x e1 e2 => by cases e1; rw [mx_rep_none] at e2; cases e2)
    · exact mx_wl_push hr.2.2.1 (fun c1 r1 e1 => by cases e1; rw [List.length_replicate, h0])
    · rw [hwd]; exact hP
    · rw [hwd]; exact hD
    · rw [← hr.1.1, List.getElem?_append_right (Nat.le_refl _), Nat.sub_self]; rfl
theorem mx_s_newa (X : mx_X p l s m args meth c R cc nL own A D cy sp F) {t : Nat} {n : Int} {at_ : ArrayType} (hat : (at_ = .int ∧ t = 0) ∨ (at_ = .long ∧ t = 1) ∨ (at_ = .boolean ∧ t = 2)) (hw : Cond.arrayClass (newarray.typeOf at_) ∈ mx_Ts)
    (hn : 0 ≤ w32 n) (hn2 : w32 n ≤ 100000) (hu : u.1 + 1 ≤ F.2.2.1) (hu2 : u.2 + mx_at n ≤ F.2.2.2) (hd : decode cc pc = .ok (.newarray at_, 2))
    (kk : mx_G p l e R s m args below meth c nL A D cy sp al0 Qe (pc + 2) L (mx_R h.1.length :: st) (h.1 ++ [.inr (t, mx_at n)], fun a b => if a = h.1.length then 0 else h.2 a b) (u.1 + 1, u.2 + mx_at n)) : mx_G p l e R s m args below meth c nL A D cy sp al0 Qe pc L (mx_I n :: st) h u := by
  intro al H locs ls vs hr hl hs
  obtain ⟨_, ws9, rfl, rfl, hs⟩ := hs
  have hlt : mx_at n ≤ 100000 := by unfold mx_at; omega
  have hneg : ¬ Int32.ofInt n < 0 := fun z => by
    have z := Int32.lt_iff_toInt_lt.mp z
    have z2 : (0 : Int32).toInt = 0 := rfl
    rw [z2] at z
    have z3 : w32 n < 0 := z
    omega
  have fin : ∀ (q : Nat) (cA : ClassId) (H1 : Heap) (a0 : vp_A), mx_en cy (al ++ [q]) (fun _ => 0) (.inr (t, mx_at n)) = .inl (cA, a0) → va_P D vwCl (mx_wd cy al h ++ [(q, .inl (cA, a0))]) H1 → va_D A (mx_wd cy al h ++ [(q, .inl (cA, a0))]) → va_S A s.heap H1 locs → W p l e R s m args below meth c H1 locs (u.1 + 1) (u.2 + mx_at n) Qe (F0 m (pc + 2) ls (.ref q :: ws9)) := by
    intro q cA H1 a0 he hP hD hS
    have hwd : mx_wd cy (al ++ [q]) (h.1 ++ [.inr (t, mx_at n)], fun a b => if a = h.1.length then 0 else h.2 a b) = mx_wd cy al h ++ [(q, .inl (cA, a0))] := by
      rw [mx_wd_push hr.1.1 hr.2.1, he]
    refine kk (al ++ [q]) H1 locs ls _ ⟨?_, ?_, ?_, ?_, ?_, hS⟩ (hl.more ⟨_, rfl⟩) ⟨_, _, rfl, ⟨q, ?_, rfl⟩, hs.more ⟨_, rfl⟩⟩
    · refine ⟨by rw [List.length_append, List.length_append, hr.1.1]; rfl, ?_⟩
      obtain ⟨b, hb⟩ := hr.1.2
      exact ⟨b ++ [q], by rw [hb, List.append_assoc]⟩
    · exact mx_wf_push hr.2.1 (fun c1 r1 k1 x e1 e2 => by cases e1)
    · exact mx_wl_push hr.2.2.1 (fun c1 r1 e1 => by cases e1)
    · rw [hwd]; exact hP
    · rw [hwd]; exact hD
    · rw [← hr.1.1, List.getElem?_append_right (Nat.le_refl _), Nat.sub_self]; rfl
  rcases hat with ⟨rfl, rfl⟩ | ⟨rfl, rfl⟩ | ⟨rfl, rfl⟩
  · refine va_newa (D := D) (a0 := (mx_at n, .inl fun _ => 0)) (ty := .int) (N' := mx_at n) X.1 X.2.1 (X.ts _ hw) rfl X.K hr.2.2.2.1 hr.2.2.2.2.1 hr.2.2.2.2.2 X.A (fun _ => rfl) hneg rfl (show mx_at n * 4 ≤ 536870912 by omega) (Nat.le_trans hu X.2.2.2.2.2.2.2.1) (Nat.le_trans hu2 X.2.2.2.2.2.2.2.2.1) hd (fun q cA H1 hK hP hD hS => ?_)
    have e : cA = cy 0 := Option.some.inj ((hK.2 3 _ rfl).2.symm.trans (X.K.2 0 _ rfl).2)
    subst e
    exact fin q _ H1 _ rfl hP hD hS
  · refine va_newa (D := D) (a0 := (mx_at n, .inr (.inl fun _ => 0))) (ty := .long) (N' := mx_at n) X.1 X.2.1 (X.ts _ hw) rfl X.K hr.2.2.2.1 hr.2.2.2.2.1 hr.2.2.2.2.2 X.A (fun _ => rfl) hneg rfl (show mx_at n * 8 ≤ 536870912 by omega) (Nat.le_trans hu X.2.2.2.2.2.2.2.1) (Nat.le_trans hu2 X.2.2.2.2.2.2.2.2.1) hd (fun q cA H1 hK hP hD hS => ?_)
    have e : cA = cy 1 := Option.some.inj ((hK.2 3 _ rfl).2.symm.trans (X.K.2 1 _ rfl).2)
    subst e
    exact fin q _ H1 _ rfl hP hD hS
  · refine va_newa (D := D) (a0 := (mx_at n, .inl fun _ => 0)) (ty := .boolean) (N' := mx_at n) X.1 X.2.1 (X.ts _ hw) rfl X.K hr.2.2.2.1 hr.2.2.2.2.1 hr.2.2.2.2.2 X.A (fun _ => rfl) hneg rfl (show mx_at n * 1 ≤ 536870912 by omega) (Nat.le_trans hu X.2.2.2.2.2.2.2.1) (Nat.le_trans hu2 X.2.2.2.2.2.2.2.2.1) hd (fun q cA H1 hK hP hD hS => ?_)
    have e : cA = cy 2 := Option.some.inj ((hK.2 3 _ rfl).2.symm.trans (X.K.2 2 _ rfl).2)
    subst e
    exact fin q _ H1 _ rfl hP hD hS
theorem mx_s_obj (X : mx_X p l s m args meth c R cc nL own A D cy sp F) {q idx : Nat} (hw : Cond.methodLink own idx Lib.objectInit ∈ mx_Ts) (hw2 : Cond.instanceMethod Lib.objectInit ∈ mx_Ts) (hw3 : Cond.code Lib.objectInit ⟨#[0xb1]⟩ 1 none ∈ mx_Ts) (hst : mx_wt st ≤ 8) (hd : decode cc pc = .ok (.invokespecial idx, 3))
    (kk : mx_G p l e R s m args below meth c nL A D cy sp al0 Qe (pc + 3) L st h u) : mx_G p l e R s m args below meth c nL A D cy sp al0 Qe pc L (mx_R q :: st) h u := by
  intro al H locs ls vs hr hl hs
  obtain ⟨_, vs, rfl, ⟨a, ha, rfl⟩, hs⟩ := hs
  refine W.objInit X.1 X.2.1 X.own (X.ts _ hw) (X.ts _ hw2) (X.ts _ hw3) (a := a) (rest := vs) rfl (by rw [X.2.2.1]; exact hl.1) rfl hd (Nat.le_trans (by omega) X.2.2.2.2.2.2.2.2.2.2.2.1) ?_ (kk al H locs ls _ hr hl hs)
  have h9 := X.2.2.2.2.2.2.2.2.2.2.2.2.1
  have h8 := hs.wt
  show 0 + (vs.map fun v => v.category).sum + 12 ≤ R.locals
  omega
theorem mx_s_ldc (X : mx_X p l s m args meth c R cc nL own A D cy sp F) {n : Int} {idx : Nat} (hw : Cond.constant own idx (Int32.ofInt n) ∈ mx_Ts) (hd : decode cc pc = .ok (.ldc idx, 2)) (kk : mx_G p l e R s m args below meth c nL A D cy sp al0 Qe (pc + 2) L (mx_I n :: st) h u) : mx_G p l e R s m args below meth c nL A D cy sp al0 Qe pc L st h u := by
  intro al H locs ls vs hr hl hs
  exact lv_ldc X.1 X.2.1 X.own (X.ts _ hw) hd (kk al H locs ls _ hr hl ⟨_, _, rfl, rfl, hs⟩)
theorem mx_s_ldcw (X : mx_X p l s m args meth c R cc nL own A D cy sp F) {n : Int} {idx : Nat} (hw : Cond.constant own idx (Int32.ofInt n) ∈ mx_Ts) (hd : decode cc pc = .ok (.ldc_w idx, 3)) (kk : mx_G p l e R s m args below meth c nL A D cy sp al0 Qe (pc + 3) L (mx_I n :: st) h u) : mx_G p l e R s m args below meth c nL A D cy sp al0 Qe pc L st h u := by
  intro al H locs ls vs hr hl hs
  exact lv_ldcw X.1 X.2.1 X.own (X.ts _ hw) hd (kk al H locs ls _ hr hl ⟨_, _, rfl, rfl, hs⟩)
theorem mx_s_ldc2 (X : mx_X p l s m args meth c R cc nL own A D cy sp F) {n : Int} {idx : Nat} (hw : Cond.constantLong own idx (Int64.ofInt n) ∈ mx_Ts) (hd : decode cc pc = .ok (.ldc2_w idx, 3)) (kk : mx_G p l e R s m args below meth c nL A D cy sp al0 Qe (pc + 3) L (mx_J n :: st) h u) : mx_G p l e R s m args below meth c nL A D cy sp al0 Qe pc L st h u := by
  intro al H locs ls vs hr hl hs
  exact lv_ldc2 X.1 X.2.1 X.own (X.ts _ hw) hd (kk al H locs ls _ hr hl ⟨_, _, rfl, rfl, hs⟩)
theorem mx_s_tsw (X : mx_X p l s m args meth c R cc nL own A D cy sp F) {x df lo hi : Int} {offs : Array Int} {len t : Nat} {ts : List Nat} (hd : decode cc pc = .ok (.tableswitch df lo hi offs, len)) (ht : (pc : Int) + df = (t : Int)) (hts : ∀ i : Nat, (i : Int) ≤ hi - lo → ∃ off, offs[i]? = some off ∧ (pc : Int) + off = ((ts.getD i 0 : Nat) : Int))
    (k1 : ¬ (lo ≤ w32 x ∧ w32 x ≤ hi) → mx_G p l e R s m args below meth c nL A D cy sp al0 Qe t L st h u) (k2 : lo ≤ w32 x ∧ w32 x ≤ hi → mx_G p l e R s m args below meth c nL A D cy sp al0 Qe (ts.getD (w32 x - lo).toNat 0) L st h u) : mx_G p l e R s m args below meth c nL A D cy sp al0 Qe pc L (mx_I x :: st) h u := by
  intro al H locs ls vs hr hl hs
  obtain ⟨_, _, rfl, rfl, hs⟩ := hs
  by_cases hin : lo ≤ w32 x ∧ w32 x ≤ hi
  · obtain ⟨off, h1, h2⟩ := hts (w32 x - lo).toNat (by omega)
    exact lv_tableIn X.1 X.2.1 hd (show ¬ w32 x < lo by omega) (show ¬ hi < w32 x by omega) h1 h2 (k2 hin al H locs ls _ hr hl hs)
  · exact lv_tableOut X.1 X.2.1 hd (show w32 x < lo ∨ hi < w32 x by omega) ht (k1 hin al H locs ls _ hr hl hs)
theorem mx_s_lsw (X : mx_X p l s m args meth c R cc nL own A D cy sp F) {x df : Int} {ps : Array (Int × Int)} {len t : Nat} {ts : List Nat} (hd : decode cc pc = .ok (.lookupswitch df ps, len)) (hp : (ps.toList.zip (ps.toList.drop 1)).all (fun (a, next) => a.1 < next.1) = true) (ht : (pc : Int) + df = (t : Int)) (hts : ∀ (k : Nat) (q : Int × Int), ps.toList[k]? = some q → (pc : Int) + q.2 = ((ts.getD k 0 : Nat) : Int))
    (k1 : ¬ (∃ q ∈ ps.toList, q.1 = w32 x) → mx_G p l e R s m args below meth c nL A D cy sp al0 Qe t L st h u) (k2 : ∀ (k : Nat) (q : Int × Int), ps.toList[k]? = some q → q.1 = w32 x → mx_G p l e R s m args below meth c nL A D cy sp al0 Qe (ts.getD k 0) L st h u) : mx_G p l e R s m args below meth c nL A D cy sp al0 Qe pc L (mx_I x :: st) h u := by
  intro al H locs ls vs hr hl hs
  obtain ⟨_, _, rfl, rfl, hs⟩ := hs
  rcases mx_lk df (w32 x) ps.toList with ⟨h1, h2⟩ | ⟨j, q, h1, h2, h3⟩
  · exact lv_lookup X.1 X.2.1 hd hp h2 ht (k1 h1 al H locs ls _ hr hl hs)
  · exact lv_lookup X.1 X.2.1 hd hp h3 (hts j q h1) (k2 j q h1 h2 al H locs ls _ hr hl hs)
theorem mx_s_gets (X : mx_X p l s m args meth c R cc nL own A D cy sp F) {k idx : Nat} {n : String} (hk : (k = 1 ∧ n = "LEAST") ∨ (k = 2 ∧ n = "MOST") ∨ (k = 3 ∧ n = "UNSAID")) (hw : Cond.fieldLinkNest own idx "NoonWords" n "[I" "NoonWords" ∈ lw_tbl) (hd : decode cc pc = .ok (.getstatic idx, 3))
    (kk : mx_G p l e R s m args below meth c nL A D cy sp al0 Qe (pc + 3) L (mx_S k :: st) h u) : mx_G p l e R s m args below meth c nL A D cy sp al0 Qe pc L st h u := by
  intro al H locs ls vs hr hl hs
  have hlink : (Cond.fieldLinkNest own idx "NoonWords" n "[I" "NoonWords").before args s = true := va_Nw.use rfl (X.2.2.2.2.2.2.2.2.2.2.2.2.2.2 _ hw rfl)
  rcases hk with ⟨rfl, rfl⟩ | ⟨rfl, rfl⟩ | ⟨rfl, rfl⟩
  · exact va_getsN X.1 X.2.1 X.env.2.1 hr.2.2.2.2.2 X.own hlink (fun _ h9 => h9) hd (kk al H locs ls _ hr hl ⟨_, _, rfl, rfl, hs⟩)
  · exact va_getsN X.1 X.2.1 X.env.2.2.1 hr.2.2.2.2.2 X.own hlink (fun _ h9 => h9) hd (kk al H locs ls _ hr hl ⟨_, _, rfl, rfl, hs⟩)
  · exact va_getsN X.1 X.2.1 X.env.2.2.2.1 hr.2.2.2.2.2 X.own hlink (fun _ h9 => h9) hd (kk al H locs ls _ hr hl ⟨_, _, rfl, rfl, hs⟩)
end MXN
