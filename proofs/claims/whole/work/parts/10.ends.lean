/-! a body's ends: returns, throws out, throws caught -/
def mx_Qe (below : List Frame) (D : va_G) (cy : Nat → ClassId) (sp : Nat → Nat) (al0 : List Nat) (h0 : mx_H) (Q : mx_O → mx_H → Prop) (args : Array Value) (s : State) (mc ms : Nat) : State → Prop :=
  vx_MQ below (mx_Qc D cy sp al0 h0 s.heap.size Q) (mx_XC D cy al0 h0 s.heap.size Q) args s mc ms (va_A (mx_wd cy al0 h0) s.heap.size)
section MXE
variable {p : Program} {l : Launch} {e : Env} {R : Room} {s : State} {m : MethodId} {args : Array Value} {below : List Frame} {meth : Method} {c : Code} {cc : ByteArray} {nL : Nat} {own : String} {D : va_G} {cy : Nat → ClassId} {sp : Nat → Nat} {F : mx_F} {al0 : List Nat} {h0 : mx_H} {Q : mx_O → mx_H → Prop} {pc mc ms : Nat} {L : mx_L} {st : List mx_v} {h : mx_H} {u : Nat × Nat}
theorem mx_e_q {al : List Nat} {H : Heap} {locs : List Loc} {r : Option mx_v} {v : Option Value} (hQ : Q (.inl r) h) (hr : mx_rep s (va_A (mx_wd cy al0 h0) s.heap.size) D cy al0 al h H locs) (hro : mx_ro al sp r v) (t : State) (ht : t.heap = H) : mx_Qc D cy sp al0 h0 s.heap.size Q args s (.returned v) t :=
  ⟨⟨r, h, al, v, hQ, rfl, hro, hr.1.2, hr.1.1, hr.2.1, hr.2.2.1, by rw [ht]; exact hr.2.2.2.1, hr.2.2.2.2.1⟩, hr.2.2.2.2.2.F ht⟩
theorem mx_e_iret (X : mx_X p l s m args meth c R cc nL own (va_A (mx_wd cy al0 h0) s.heap.size) D cy sp F) {n : Int} (hret : meth.sig.returnType = some .int) (hu : u.1 ≤ mc ∧ u.2 ≤ ms) (hQ : Q (.inl (some (mx_I n))) h) (hd : decode cc pc = .ok (.ireturn, 1)) :
    mx_G p l e R s m args below meth c nL (va_A (mx_wd cy al0 h0) s.heap.size) D cy sp al0 (mx_Qe below D cy sp al0 h0 Q args s mc ms) pc L [mx_I n] h u := by
  intro al H locs ls vs hr hl hs
  obtain ⟨_, _, rfl, rfl, rfl⟩ := hs
  refine W.widen hu.1 hu.2 (vx_ret ?_)
  exact W.iret X.1 X.2.1 hret (fun t ht hW => mx_e_q hQ hr ⟨_, rfl, rfl⟩ t ht) hr.2.2.2.2.2.2.2 hd X.2.2.2.2.2.2.2.2.2.2.2.2.2.1
theorem mx_e_zret (X : mx_X p l s m args meth c R cc nL own (va_A (mx_wd cy al0 h0) s.heap.size) D cy sp F) {n : Int} (hret : meth.sig.returnType = some .boolean) (hn : w32 n = 0 ∨ w32 n = 1) (hu : u.1 ≤ mc ∧ u.2 ≤ ms) (hQ : Q (.inl (some (mx_I n))) h) (hd : decode cc pc = .ok (.ireturn, 1)) :
    mx_G p l e R s m args below meth c nL (va_A (mx_wd cy al0 h0) s.heap.size) D cy sp al0 (mx_Qe below D cy sp al0 h0 Q args s mc ms) pc L [mx_I n] h u := by
  intro al H locs ls vs hr hl hs
  obtain ⟨_, _, rfl, rfl, rfl⟩ := hs
  refine W.widen hu.1 hu.2 (vx_ret ?_)
  exact W.zret X.1 X.2.1 hret (by rcases mx_bool hn with e | e <;> rw [e] <;> rfl) (fun t ht hW => mx_e_q hQ hr ⟨_, rfl, rfl⟩ t ht) hr.2.2.2.2.2.2.2 hd X.2.2.2.2.2.2.2.2.2.2.2.2.2.1
theorem mx_e_nret (X : mx_X p l s m args meth c R cc nL own (va_A (mx_wd cy al0 h0) s.heap.size) D cy sp F) {n : Int} {ty : FieldType} (hret : meth.sig.returnType = some ty) (hn : narrow ty (.int (Int32.ofInt n)) = .int (Int32.ofInt n)) (hu : u.1 ≤ mc ∧ u.2 ≤ ms) (hQ : Q (.inl (some (mx_I n))) h) (hd : decode cc pc = .ok (.ireturn, 1)) :
    mx_G p l e R s m args below meth c nL (va_A (mx_wd cy al0 h0) s.heap.size) D cy sp al0 (mx_Qe below D cy sp al0 h0 Q args s mc ms) pc L [mx_I n] h u := by
  intro al H locs ls vs hr hl hs
  obtain ⟨_, _, rfl, rfl, rfl⟩ := hs
  refine W.widen hu.1 hu.2 (vx_ret ?_)
  exact W.zret X.1 X.2.1 hret hn (fun t ht hW => mx_e_q hQ hr ⟨_, rfl, rfl⟩ t ht) hr.2.2.2.2.2.2.2 hd X.2.2.2.2.2.2.2.2.2.2.2.2.2.1
theorem mx_e_lret (X : mx_X p l s m args meth c R cc nL own (va_A (mx_wd cy al0 h0) s.heap.size) D cy sp F) {n : Int} (hret : meth.sig.returnType = some .long) (hu : u.1 ≤ mc ∧ u.2 ≤ ms) (hQ : Q (.inl (some (mx_J n))) h) (hd : decode cc pc = .ok (.lreturn, 1)) :
    mx_G p l e R s m args below meth c nL (va_A (mx_wd cy al0 h0) s.heap.size) D cy sp al0 (mx_Qe below D cy sp al0 h0 Q args s mc ms) pc L [mx_J n] h u := by
  intro al H locs ls vs hr hl hs
  obtain ⟨_, _, rfl, rfl, rfl⟩ := hs
  refine W.widen hu.1 hu.2 (vx_ret ?_)
  exact W.lret X.1 X.2.1 hret (fun t ht hW => mx_e_q hQ hr ⟨_, rfl, rfl⟩ t ht) hr.2.2.2.2.2.2.2 hd X.2.2.2.2.2.2.2.2.2.2.2.2.2.1
theorem mx_e_vret (X : mx_X p l s m args meth c R cc nL own (va_A (mx_wd cy al0 h0) s.heap.size) D cy sp F) (hret : meth.sig.returnType = none) (hu : u.1 ≤ mc ∧ u.2 ≤ ms) (hQ : Q (.inl none) h) (hd : decode cc pc = .ok (.return_, 1)) :
    mx_G p l e R s m args below meth c nL (va_A (mx_wd cy al0 h0) s.heap.size) D cy sp al0 (mx_Qe below D cy sp al0 h0 Q args s mc ms) pc L [] h u := by
  intro al H locs ls vs hr hl hs
  cases hs
  refine W.widen hu.1 hu.2 (vx_ret ?_)
  exact W.vret X.1 X.2.1 hret (fun t ht hW => mx_e_q hQ hr rfl t ht) hr.2.2.2.2.2.2.2 hd X.2.2.2.2.2.2.2.2.2.2.2.2.2.1
theorem mx_e_x {al : List Nat} {H : Heap} {locs : List Loc} {x : Nat} (hx : x < 4) (hQ : Q (.inr x) h) (hr : mx_rep s (va_A (mx_wd cy al0 h0) s.heap.size) D cy al0 al h H locs) (t : State) (h1 : H.size ≤ t.heap.size) (h2 : ∀ q : Nat, q < H.size → t.heap[q]? = H[q]?) : mx_XC D cy al0 h0 s.heap.size Q (mx_ex x) s t := by
  refine ⟨⟨x, h, al, hx, rfl, hQ, hr.1.2, hr.1.1, hr.2.1, hr.2.2.1, hr.2.2.2.1.kept (fun k q hk => h2 _ (hr.2.2.2.1 k q hk).lt), hr.2.2.2.2.1⟩, Nat.le_trans hr.2.2.2.2.2.1 h1, fun q hq hA => ?_⟩
  rw [h2 q (Nat.lt_of_lt_of_le hq hr.2.2.2.2.2.1)]
  exact hr.2.2.2.2.2.2.1 q hq hA
/-- an exception goes on to the caller -/
theorem mx_e_out (X : mx_X p l s m args meth c R cc nL own (va_A (mx_wd cy al0 h0) s.heap.size) D cy sp F) {x : Nat} (hout : ∀ z ∈ c.exceptionTable.toList, covers z pc = false ∨ (z.catchType ≠ 0 ∧ ∃ y : Nat, y < 4 ∧ y ≠ x ∧ Cond.classLink own z.catchType (mx_ex y) ∈ mx_Ts)) (hu : u.1 ≤ mc ∧ u.2 ≤ ms) (hQ : Q (.inr x) h) :
    mx_GX p l e R s m args below meth c nL (va_A (mx_wd cy al0 h0) s.heap.size) D cy sp al0 (mx_Qe below D cy sp al0 h0 Q args s mc ms) pc L x h u := by
  intro al H locs ls vs q ce hr hl hx hce hcv hcl
  refine vx_outP X.own X.2.2.2.2.2.2.2.2.2.2.2.2.2.1 (fun z hz => ?_) hce hcv hcl (fun t ht hW => mx_e_x hx hQ hr t (by rw [ht]; exact Nat.le_refl _) (fun q _ => by rw [ht])) hr.2.2.2.2.2.2.2 hu.1 hu.2
  rcases hout z hz with h1 | ⟨h1, y, hy, hyx, hw⟩
  · exact Or.inl h1
  · exact Or.inr ⟨h1, mx_ex y, X.ts _ hw, X.env.2.2.2.2.2.2.1 x y hx hy (fun e => hyx e.symm)⟩
/-- .. or is caught; the handler begins with a store of it -/
theorem mx_e_catch {A : Nat → Prop} {Qe : State → Prop} (X : mx_X p l s m args meth c R cc nL own A D cy sp F) {x i t : Nat} (pre : List ExceptionTableEntry) (z : ExceptionTableEntry) (suf : List ExceptionTableEntry) (hsp : c.exceptionTable.toList = pre ++ z :: suf) (hpre : ∀ y ∈ pre, covers y pc = false ∨ (y.catchType ≠ 0 ∧ ∃ k : Nat, k < 4 ∧ k ≠ x ∧ Cond.classLink own y.catchType (mx_ex k) ∈ mx_Ts))
    (hz : covers z pc = true) (hz0 : z.catchType ≠ 0) (hw : Cond.classLink own z.catchType (mx_ex x) ∈ mx_Ts) (hca : Cond.castable (mx_ex x) (mx_ex x) ∈ lw_tbl) (hi : i < nL) (hd : (∃ j : Fin 4, (j : Nat) = i ∧ decode cc z.handlerPc = .ok (.astore_n j, 1) ∧ t = z.handlerPc + 1) ∨ (decode cc z.handlerPc = .ok (.astore i, 2) ∧ t = z.handlerPc + 2))
    (kk : mx_G p l e R s m args below meth c nL A D cy sp al0 Qe t ((mx_clr L i).set i none) [] h u) : mx_GX p l e R s m args below meth c nL A D cy sp al0 Qe pc L x h u := by
  intro al H locs ls vs q ce hr hl hx hce hcv hcl
  refine vx_catch X.own pre z suf hsp (fun y hy => ?_) hz hz0 (X.ts _ hw) (va_Nw.use rfl (X.2.2.2.2.2.2.2.2.2.2.2.2.2.2 _ hca rfl)) hce hcv hcl ?_
  · rcases hpre y hy with h1 | ⟨h1, k, hk, hkx, hw⟩
    · exact Or.inl h1
    · exact Or.inr ⟨h1, mx_ex k, X.ts _ hw, X.env.2.2.2.2.2.2.1 x k hx hk (fun e => hkx e.symm)⟩
  · have fin : ∀ ls' : Array Slot, lv_has ls' nL ((i, .ref q) :: (mx_lvA ls).filter (fun q => !(q.1 == i) && !(q.1 + 1 == i && q.2.category == 2))) → mx_lr al sp nL ((mx_clr L i).set i none) ls' := by
      intro ls' hl'
      refine ⟨hl'.1, hl'.2.1, ?_, ?_⟩
      · rw [List.length_set]
        unfold mx_clr
        split
        · exact hl.2.2.1
        · split
          · rw [List.length_set]; exact hl.2.2.1
          · exact hl.2.2.1
      · intro j v hv
        rw [List.getElem?_set] at hv
        by_cases hij : i = j
        · subst hij
          rw [if_pos rfl] at hv
          split at hv <;> cases hv
        · rw [if_neg hij] at hv
          have h0 : L[j]? = some (some v) ∧ ¬ (j + 1 = i ∧ mx_cat v = 2) := by
            unfold mx_clr at hv
            split at hv
            · exact ⟨hv, fun e => by omega⟩
            · next k =>
              split at hv
              · next n0 e0 =>
                rw [List.getElem?_set] at hv
                by_cases hkj : k = j
                · subst hkj
                  rw [if_pos rfl] at hv
                  split at hv <;> cases hv
                · rw [if_neg hkj] at hv
                  exact ⟨hv, fun e => hkj (by omega)⟩
              · next hne =>
                refine ⟨hv, fun e => ?_⟩
                obtain ⟨e1, e2⟩ := e
                have hkj : k = j := by omega
                subst hkj
                unfold mx_cat at e2
                split at e2
                · next n1 => exact hne n1 (by rw [List.getD_eq_getElem?_getD, hv]; rfl)
                · cases e2
          obtain ⟨w', e1, e2⟩ := hl.2.2.2 j v h0.1
          refine ⟨w', e1, hl'.2.2 (j, w') (List.mem_cons_of_mem _ (List.mem_filter.mpr ⟨mx_lvA_mem.mpr e2, ?_⟩))⟩
          have hc := e1.cat
          have hn := h0.2
          simp only [Bool.and_eq_true, Bool.not_eq_true', beq_eq_false_iff_ne, Bool.and_eq_false_iff]
          refine ⟨fun e => hij e.symm, ?_⟩
          by_cases e1 : j + 1 = i
          · right
            rw [hc]
            exact fun e2 => hn ⟨e1, e2⟩
          · left
            exact e1
    rcases hd with ⟨j, hj, hd, rfl⟩ | ⟨hd, rfl⟩
    · exact lv_astore_n X.1 X.2.1 hd hj (mx_lvA_has hl.1 hl.2.1) hi rfl fun ls' hl' => kk al H locs ls' _ hr (fin ls' hl') rfl
    · exact lv_astore X.1 X.2.1 hd (mx_lvA_has hl.1 hl.2.1) hi rfl fun ls' hl' => kk al H locs ls' _ hr (fin ls' hl') rfl
/-- 'throw new E()' -/
theorem mx_e_throw (X : mx_X p l s m args meth c R cc nL own (va_A (mx_wd cy al0 h0) s.heap.size) D cy sp F) {x ik ic : Nat} (hx : x < 4) (htab : ∀ z ∈ c.exceptionTable.toList, False) (hfit : Bundle.fit (mx_ex x) = true ∧ Bundle.fit "java/lang/RuntimeException" = true ∧ Bundle.fit "java/lang/Exception" = true)
    (hw : Cond.classLink own ik (mx_ex x) ∈ mx_Ts) (hw2 : Cond.initialized (mx_ex x) ∈ mx_Ts) (hat : ∀ w ∈ vx_at0 own ic (mx_ex x) ["java/lang/RuntimeException", "java/lang/Exception"], w ∈ lw_tbl ∧ mx_ok w = true)
    (hu : u.1 + 1 ≤ F.2.2.1 ∧ u.2 + 6 ≤ F.2.2.2) (hmc : F.2.2.1 ≤ mc ∧ F.2.2.2 ≤ ms) (hst : mx_wt st ≤ 8) (hQ : Q (.inr x) h) (d0 : decode cc pc = .ok (.new ik, 3)) (d3 : decode cc (pc + 3) = .ok (.dup, 1)) (d4 : decode cc (pc + 4) = .ok (.invokespecial ic, 3)) (d7 : decode cc (pc + 7) = .ok (.athrow, 1)) :
    mx_G p l e R s m args below meth c nL (va_A (mx_wd cy al0 h0) s.heap.size) D cy sp al0 (mx_Qe below D cy sp al0 h0 Q args s mc ms) pc L st h u := by
  intro al H locs ls vs hr hl hs
  have hok : ∀ w, w ∈ lw_tbl → mx_ok w = true → w.before args s = true := by
    intro w h1 h2
    unfold mx_ok at h2
    rcases Bool.or_eq_true_iff.mp h2 with h2 | h2
    · exact X.ts w (List.mem_filter.mpr ⟨h1, h2⟩)
    · refine va_Nw.use ?_ (X.2.2.2.2.2.2.2.2.2.2.2.2.2.2 w h1 h2)
      unfold mx_nwK at h2
      split at h2
      · rfl
      · rfl
      · rfl
      · rfl
      · cases h2
  have hgd : ∀ w, mx_ok w = true → vx_ot w = true := by
    intro w h2
    unfold mx_ok at h2
    unfold vx_ot
    rcases Bool.or_eq_true_iff.mp h2 with h2 | h2
    · rw [h2, Bool.or_true]
    · unfold mx_nwK at h2
      split at h2
      · rfl
      · rfl
      · rfl
      · rfl
      · cases h2
  have hcell := X.2.2.2.2.2.2.2.1
  have hslot := X.2.2.2.2.2.2.2.2.1
  have hfr := X.2.2.2.2.2.2.2.2.2.2.2.1
  have hlo := X.2.2.2.2.2.2.2.2.2.2.2.2.1
  refine vx_throw0 (names := ["java/lang/RuntimeException", "java/lang/Exception"]) (cls := mx_ex x) X.1 X.2.1 X.2.2.2.2.2.2.2.2.2.2.1 X.own hfit.1 (fun n hn => ?_) (X.ts _ hw) (X.ts _ hw2) (fun w hw => hok w (hat w hw).1 (hat w hw).2) (fun w hw9 => ?_) X.env.2.2.2.2.1 X.env.2.2.2.2.2.1 hr.2.2.2.2.2 (hl.1.trans X.2.2.1.symm) d0 d3 d4 d7 (fun z hz => (htab z hz).elim) (show 2 + 3 < R.frames by omega) ?_ (by omega) (by omega) X.2.2.2.2.2.2.2.2.2.2.2.2.2.1 (fun t hW h1 h2 => mx_e_x hx hQ hr t h1 h2) hr.2.2.2.2.2.2.2 (by omega) (by omega)
  · rcases List.mem_cons.mp hn with rfl | hn
    · exact hfit.2.1
    · rcases List.mem_cons.mp hn with rfl | hn
      · exact hfit.2.2
      · cases hn
  · rcases List.mem_cons.mp hw9 with rfl | hw9
    · rfl
    · rcases List.mem_cons.mp hw9 with rfl | hw9
      · rfl
      · exact hgd w (hat w hw9).2
  · rw [hs.wt]
    show mx_wt st + (13 * (2 + 1) + 42) ≤ R.locals
    omega
end MXE
