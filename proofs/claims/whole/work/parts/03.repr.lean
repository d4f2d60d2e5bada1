/-! how the small machine's things lie in the machine -/
def mx_ns (ci : Nat) : Nat := (vwCl.getD ci ("", fun _ => ("", "", "", false), 0)).2.2
def mx_ty (ci : Nat) : Nat → FieldType := match ci with
  | 0 => tyX0 | 1 => tyX1 | 2 => tyX2 | 3 => tyX3 | 4 => tyX4 | 5 => tyX5 | 6 => tyX6 | 7 => tyX7 | 8 => tyX8 | 9 => tyX9 | 10 => tyX10 | 11 => tyX11 | 12 => tyX12
  | _ => fun _ => .int
def mx_tgf (ty : FieldType) : Nat := match ty with
  | .long => 1
  | .boolean => 2
  | .object _ => 3
  | .array _ => 3
  | _ => 0
def mx_tg (ci k : Nat) : Nat := mx_tgf (mx_ty ci k)
def mx_vl (al : List Nat) (t : Nat) (n : Int) (r : Option Nat) : Value := match t with
  | 1 => .long (Int64.ofInt n)
  | 3 => match r with
    | some c => (match al[c]? with
      | some a => .ref a
      | none => .null)
    | none => .null
  | _ => .int (Int32.ofInt n)
def mx_fs (al : List Nat) (g : Nat → Int) (ci : Nat) (rf : List (Option Nat)) : List Value := (List.range (mx_ns ci)).map fun k => mx_vl al (mx_tg ci k) (g k) (rf.getD k none)
def mx_en (cy : Nat → ClassId) (al : List Nat) (g : Nat → Int) (d : mx_d) : va_E := match d with
  | .inl (ci, rf) => .inr (ci, mx_fs al g ci rf)
  | .inr (0, n) => .inl (cy 0, n, .inl fun i => Int32.ofInt (g i))
  | .inr (1, n) => .inl (cy 1, n, .inr (.inl fun i => Int64.ofInt (g i)))
  | .inr (_, n) => .inl (cy 2, n, .inl fun i => Int32.ofInt (g i))
def mx_wd (cy : Nat → ClassId) (al : List Nat) (h : mx_H) : va_W := (al.zip h.1).mapIdx fun q x => (x.1, mx_en cy al (h.2 q) x.2)
def mx_rp (al : List Nat) (sp : Nat → Nat) (v : mx_v) (w : Value) : Prop := match v with
  | .inl n => w = .int (Int32.ofInt n)
  | .inr (.inl n) => w = .long (Int64.ofInt n)
  | .inr (.inr (.inl none)) => w = .null
  | .inr (.inr (.inl (some q))) => ∃ a, al[q]? = some a ∧ w = .ref a
  | .inr (.inr (.inr k)) => w = .ref (sp k)
def mx_rs (al : List Nat) (sp : Nat → Nat) : List mx_v → List Value → Prop
  | [], ws => ws = []
  | v :: vs, ws => ∃ w ws', ws = w :: ws' ∧ mx_rp al sp v w ∧ mx_rs al sp vs ws'
/-- references in the kinds point to cells that are there -/
def mx_wf (sh : List mx_d) : Prop := ∀ (q ci : Nat) (rf : List (Option Nat)) (k r : Nat), sh[q]? = some (.inl (ci, rf)) → rf.getD k none = some r → r < sh.length
/-- .. and their reference slots are as many as the class has -/
def mx_wl (sh : List mx_d) : Prop := ∀ (q ci : Nat) (rf : List (Option Nat)), sh[q]? = some (.inl (ci, rf)) → rf.length = mx_ns ci
theorem mx_wd_get {cy : Nat → ClassId} {al : List Nat} {h : mx_H} {q a : Nat} {d : mx_d} (ha : al[q]? = some a) (hd : h.1[q]? = some d) : (mx_wd cy al h)[q]? = some (a, mx_en cy al (h.2 q) d) := by
  unfold mx_wd
  rw [List.getElem?_mapIdx, (List.getElem?_zip_eq_some (z := (a, d))).mpr ⟨ha, hd⟩]
  rfl
theorem mx_wd_len {cy : Nat → ClassId} {al : List Nat} {h : mx_H} (hl : al.length = h.1.length) : (mx_wd cy al h).length = al.length := by
  unfold mx_wd
  rw [List.length_mapIdx, List.length_zip, hl, Nat.min_self]
theorem mx_al {al : List Nat} {sh : List mx_d} {q : Nat} {d : mx_d} (hl : al.length = sh.length) (hd : sh[q]? = some d) : ∃ a, al[q]? = some a := by
  have h1 : q < sh.length := (List.getElem?_eq_some_iff.mp hd).1
  exact ⟨al[q]'(by omega), List.getElem?_eq_getElem (by omega)⟩
/-- one cell changes -/
theorem mx_wd_set {cy : Nat → ClassId} {al : List Nat} {h h' : mx_H} {q a : Nat} {d : mx_d} {x : va_E} (hl : al.length = h.1.length) (hl' : h'.1.length = h.1.length) (ha : al[q]? = some a) (hd : h'.1[q]? = some d) (hx : mx_en cy al (h'.2 q) d = x)
    (ho : ∀ k, k ≠ q → h'.1[k]? = h.1[k]? ∧ h'.2 k = h.2 k) : mx_wd cy al h' = (mx_wd cy al h).set q (a, x) := by
  apply List.ext_getElem?
  intro k
  rw [List.getElem?_set]
  by_cases hk : q = k
  · subst hk
    rw [if_pos rfl, mx_wd_get ha hd, hx, if_pos]
    rw [mx_wd_len hl]
    exact (List.getElem?_eq_some_iff.mp ha).1
  · rw [if_neg hk]
    obtain ⟨h1, h2⟩ := ho k (fun e => hk e.symm)
    unfold mx_wd
    rw [List.getElem?_mapIdx, List.getElem?_mapIdx]
    by_cases hlt : k < al.length
    · have e1 : al[k]? = some (al[k]'hlt) := List.getElem?_eq_getElem hlt
      have e2 : h.1[k]? = some (h.1[k]'(by omega)) := List.getElem?_eq_getElem (by omega)
      have e3 : h'.1[k]? = some (h.1[k]'(by omega)) := h1.trans e2
      rw [(List.getElem?_zip_eq_some (z := (al[k]'hlt, h.1[k]'(by omega)))).mpr ⟨e1, e2⟩, (List.getElem?_zip_eq_some (z := (al[k]'hlt, h.1[k]'(by omega)))).mpr ⟨e1, e3⟩]
      simp only [Option.map_some, h2]
    · rw [List.getElem?_eq_none (by rw [List.length_zip]; omega), List.getElem?_eq_none (by rw [List.length_zip]; omega)]
      rfl
/-- the values' places stay when addresses come to the end -/
theorem mx_rp.more {al al' : List Nat} {sp : Nat → Nat} {v : mx_v} {w : Value} (hx : ∃ b, al' = al ++ b) (h : mx_rp al sp v w) : mx_rp al' sp v w := by
  obtain ⟨b, rfl⟩ := hx
  unfold mx_rp at h ⊢
  split at h
  · exact h
  · exact h
  · exact h
  · obtain ⟨a, h1, h2⟩ := h
    refine ⟨a, ?_, h2⟩
    rw [List.getElem?_append_left (List.getElem?_eq_some_iff.mp h1).1]
    exact h1
  · exact h
theorem mx_rs.more {al al' : List Nat} {sp : Nat → Nat} (hx : ∃ b, al' = al ++ b) : ∀ {vs : List mx_v} {ws : List Value}, mx_rs al sp vs ws → mx_rs al' sp vs ws
  | [], _, h => h
  | _ :: _, _, ⟨w, ws', h1, h2, h3⟩ => ⟨w, ws', h1, h2.more hx, mx_rs.more hx h3⟩
theorem mx_rs.len {al : List Nat} {sp : Nat → Nat} : ∀ {vs : List mx_v} {ws : List Value}, mx_rs al sp vs ws → ws.length = vs.length
  | [], _, h => by cases h; rfl
  | _ :: _, _, ⟨w, ws', h1, h2, h3⟩ => by rw [h1, List.length_cons, List.length_cons, mx_rs.len h3]
theorem mx_rp.cat {al : List Nat} {sp : Nat → Nat} {v : mx_v} {w : Value} (h : mx_rp al sp v w) : w.category = mx_cat v := by
  unfold mx_rp at h
  unfold mx_cat
  split at h
  · rw [h]; rfl
  · rw [h]; rfl
  · rw [h]; rfl
  · obtain ⟨a, -, h⟩ := h
    rw [h]; rfl
  · rw [h]; rfl
theorem mx_rs.wt {al : List Nat} {sp : Nat → Nat} : ∀ {vs : List mx_v} {ws : List Value}, mx_rs al sp vs ws → (ws.map fun v => v.category).sum = mx_wt vs
  | [], _, h => by cases h; rfl
  | v :: vs, _, ⟨w, ws', h1, h2, h3⟩ => by
    rw [h1, List.map_cons, List.sum_cons, mx_rs.wt h3, h2.cat]
    rfl
theorem mx_rs.drop {al : List Nat} {sp : Nat → Nat} : ∀ (n : Nat) {vs : List mx_v} {ws : List Value}, mx_rs al sp vs ws → mx_rs al sp (vs.drop n) (ws.drop n)
  | 0, _, _, h => h
  | _ + 1, [], _, h => by cases h; rfl
  | n + 1, _ :: _, _, ⟨w, ws', h1, h2, h3⟩ => by subst h1; exact mx_rs.drop n h3
theorem mx_rs.take {al : List Nat} {sp : Nat → Nat} : ∀ (n : Nat) {vs : List mx_v} {ws : List Value}, mx_rs al sp vs ws → mx_rs al sp (vs.take n) (ws.take n)
  | 0, _, _, _ => rfl
  | _ + 1, [], _, h => by cases h; rfl
  | n + 1, _ :: _, _, ⟨w, ws', h1, h2, h3⟩ => by subst h1; exact ⟨w, ws'.take n, rfl, h2, mx_rs.take n h3⟩
theorem mx_rs.app {al : List Nat} {sp : Nat → Nat} : ∀ {v1 v2 : List mx_v} {w1 w2 : List Value}, mx_rs al sp v1 w1 → mx_rs al sp v2 w2 → mx_rs al sp (v1 ++ v2) (w1 ++ w2)
  | [], _, _, _, h, h2 => by cases h; exact h2
  | _ :: _, _, _, _, ⟨w, ws', h1, h2, h3⟩, h4 => by subst h1; exact ⟨w, ws' ++ _, rfl, h2, mx_rs.app h3 h4⟩
theorem mx_rs.rev {al : List Nat} {sp : Nat → Nat} : ∀ {vs : List mx_v} {ws : List Value}, mx_rs al sp vs ws → mx_rs al sp vs.reverse ws.reverse
  | [], _, h => by cases h; rfl
  | v :: vs, _, ⟨w, ws', h1, h2, h3⟩ => by
    subst h1
    rw [List.reverse_cons, List.reverse_cons]
    exact mx_rs.app (mx_rs.rev h3) ⟨w, [], rfl, h2, rfl⟩
/-- the locals -/
def mx_lr (al : List Nat) (sp : Nat → Nat) (nL : Nat) (L : mx_L) (ls : Array Slot) : Prop := ls.size = nL ∧ lv_wf ls ∧ L.length ≤ nL ∧ ∀ (i : Nat) (v : mx_v), L[i]? = some (some v) → ∃ w, mx_rp al sp v w ∧ ls[i]? = some (.val w)
theorem mx_lr.more {al al' : List Nat} {sp : Nat → Nat} {nL : Nat} {L : mx_L} {ls : Array Slot} (hx : ∃ b, al' = al ++ b) (h : mx_lr al sp nL L ls) : mx_lr al' sp nL L ls :=
  ⟨h.1, h.2.1, h.2.2.1, fun i v hv => by obtain ⟨w, h1, h2⟩ := h.2.2.2 i v hv; exact ⟨w, h1.more hx, h2⟩⟩
theorem mx_getD {L : mx_L} {i : Nat} {v : mx_v} (h : L.getD i none = some v) : L[i]? = some (some v) := by
  rw [List.getD_eq_getElem?_getD] at h
  cases h1 : L[i]? with
  | none => rw [h1] at h; cases h
  | some x => rw [h1] at h; exact congrArg some h
def mx_lvA (ls : Array Slot) : List (Nat × Value) := (List.range ls.size).filterMap fun i => match ls[i]? with
  | some (Slot.val w) => some (i, w)
  | _ => none
theorem mx_lvA_mem {ls : Array Slot} {i : Nat} {w : Value} : (i, w) ∈ mx_lvA ls ↔ ls[i]? = some (.val w) := by
  unfold mx_lvA
  rw [List.mem_filterMap]
  constructor
  · rintro ⟨j, -, h⟩
    split at h
    · next w' e => cases h; exact e
    · cases h
  · intro h
    refine ⟨i, List.mem_range.mpr (lv_lt h), ?_⟩
    rw [h]
theorem mx_lvA_has {ls : Array Slot} {nL : Nat} (h1 : ls.size = nL) (h2 : lv_wf ls) : lv_has ls nL (mx_lvA ls) := ⟨h1, h2, fun q hq => mx_lvA_mem.mp hq⟩
theorem mx_lr.st1 {al : List Nat} {sp : Nat → Nat} {nL i : Nat} {L : mx_L} {ls ls' : Array Slot} {v : mx_v} {w : Value} (h : mx_lr al sp nL L ls) (hv : mx_rp al sp v w)
    (hl : lv_has ls' nL ((i, w) :: (mx_lvA ls).filter (fun q => !(q.1 == i) && !(q.1 + 1 == i && q.2.category == 2)))) : mx_lr al sp nL (mx_st1 L i v) ls' := by
  refine ⟨hl.1, hl.2.1, ?_, ?_⟩
  · unfold mx_st1 mx_clr
    rw [List.length_set]
    split
    · exact h.2.2.1
    · split
      · rw [List.length_set]; exact h.2.2.1
      · exact h.2.2.1
  · intro j x hx
    unfold mx_st1 at hx
    rw [List.getElem?_set] at hx
    by_cases hij : i = j
    · subst hij
      rw [if_pos rfl] at hx
      split at hx
      · cases hx
        exact ⟨w, hv, hl.2.2 (i, w) List.mem_cons_self⟩
      · cases hx
    · rw [if_neg hij] at hx
      have h0 : L[j]? = some (some x) ∧ ¬ (j + 1 = i ∧ mx_cat x = 2) := by
        unfold mx_clr at hx
        split at hx
        · exact ⟨hx, fun e => by omega⟩
        · next k =>
          split at hx
          · next n0 e0 =>
            rw [List.getElem?_set] at hx
            by_cases hkj : k = j
            · subst hkj
              rw [if_pos rfl] at hx
              split at hx <;> cases hx
            · rw [if_neg hkj] at hx
              exact ⟨hx, fun e => hkj (by omega)⟩
          · next hne =>
            refine ⟨hx, fun e => ?_⟩
            obtain ⟨e1, e2⟩ := e
            have hkj : k = j := by omega
            subst hkj
            unfold mx_cat at e2
            split at e2
            · next n1 => exact hne n1 (by rw [List.getD_eq_getElem?_getD, hx]; rfl)
            · cases e2
      obtain ⟨w', h1, h2⟩ := h.2.2.2 j x h0.1
      refine ⟨w', h1, hl.2.2 (j, w') (List.mem_cons_of_mem _ (List.mem_filter.mpr ⟨mx_lvA_mem.mpr h2, ?_⟩))⟩
      have hc := h1.cat
      have hn := h0.2
      simp only [Bool.and_eq_true, Bool.not_eq_true', beq_eq_false_iff_ne, Bool.and_eq_false_iff]
      refine ⟨fun e => hij e.symm, ?_⟩
      by_cases e1 : j + 1 = i
      · right
        rw [hc]
        exact fun e2 => hn ⟨e1, e2⟩
      · left
        exact e1
theorem mx_lr.st2 {al : List Nat} {sp : Nat → Nat} {nL i : Nat} {L : mx_L} {ls ls' : Array Slot} {v : mx_v} {w : Value} (h : mx_lr al sp nL L ls) (hv : mx_rp al sp v w)
    (hl : lv_has ls' nL ((i, w) :: (mx_lvA ls).filter (fun q => !(q.1 == i) && (!(q.1 == i + 1) && !(q.1 + 1 == i && q.2.category == 2))))) : mx_lr al sp nL (mx_st2 L i v) ls' := by
  refine ⟨hl.1, hl.2.1, ?_, ?_⟩
  · unfold mx_st2 mx_clr
    rw [List.length_set, List.length_set]
    split
    · exact h.2.2.1
    · split
      · rw [List.length_set]; exact h.2.2.1
      · exact h.2.2.1
  · intro j x hx
    unfold mx_st2 at hx
    rw [List.getElem?_set] at hx
    by_cases hi1 : i + 1 = j
    · subst hi1
      rw [if_pos rfl] at hx
      split at hx <;> cases hx
    rw [if_neg hi1, List.getElem?_set] at hx
    by_cases hij : i = j
    · subst hij
      rw [if_pos rfl] at hx
      split at hx
      · cases hx
        exact ⟨w, hv, hl.2.2 (i, w) List.mem_cons_self⟩
      · cases hx
    · rw [if_neg hij] at hx
      have h0 : L[j]? = some (some x) ∧ ¬ (j + 1 = i ∧ mx_cat x = 2) := by
        unfold mx_clr at hx
        split at hx
        · exact ⟨hx, fun e => by omega⟩
        · next k =>
          split at hx
          · next n0 e0 =>
            rw [List.getElem?_set] at hx
            by_cases hkj : k = j
            · subst hkj
              rw [if_pos rfl] at hx
              split at hx <;> cases hx
            · rw [if_neg hkj] at hx
              exact ⟨hx, fun e => hkj (by omega)⟩
          · next hne =>
            refine ⟨hx, fun e => ?_⟩
            obtain ⟨e1, e2⟩ := e
            have hkj : k = j := by omega
            subst hkj
            unfold mx_cat at e2
            split at e2
            · next n1 => exact hne n1 (by rw [List.getD_eq_getElem?_getD, hx]; rfl)
            · cases e2
      obtain ⟨w', h1, h2⟩ := h.2.2.2 j x h0.1
      refine ⟨w', h1, hl.2.2 (j, w') (List.mem_cons_of_mem _ (List.mem_filter.mpr ⟨mx_lvA_mem.mpr h2, ?_⟩))⟩
      have hc := h1.cat
      have hn := h0.2
      simp only [Bool.and_eq_true, Bool.not_eq_true', beq_eq_false_iff_ne, Bool.and_eq_false_iff]
      refine ⟨fun e => hij e.symm, fun e => hi1 e.symm, ?_⟩
      by_cases e1 : j + 1 = i
      · right
        rw [hc]
        exact fun e2 => hn ⟨e1, e2⟩
      · left
        exact e1
