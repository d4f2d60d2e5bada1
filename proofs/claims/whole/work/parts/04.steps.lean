/-! what is fixed while a method's body runs, what is held at a place of it, and one row an instruction -/
def mx_ex (x : Nat) : String := match x with
  | 0 => "java/util/NoSuchElementException"
  | 1 => "java/lang/IllegalArgumentException"
  | 2 => "java/lang/IllegalStateException"
  | _ => "java/lang/IndexOutOfBoundsException"
def mx_so (k : Nat) : String × (Nat × String) := match k with
  | 0 => ("NoonWords$Tape", 68, "fee dies bound rank bears loss ban void n coin way seasons kin day time from to near far teller payer unless or and not ")
  | 1 => ("NoonWords$Tape", 60, ";:<>=+-*/%()[]")
  | 2 => ("NoonWordsModel", 444, "fee")
  | 3 => ("NoonWordsModel", 446, "dies")
  | 4 => ("NoonWordsModel", 448, "bound")
  | 5 => ("NoonWordsModel", 450, "rank")
  | 6 => ("NoonWordsModel", 452, "bears")
  | 7 => ("NoonWordsModel", 453, "loss")
  | 8 => ("NoonWordsModel", 455, "ban")
  | 9 => ("NoonWordsModel", 457, "void")
  | 10 => ("NoonWordsModel", 430, "kin")
  | 11 => ("NoonWordsModel", 440, "near")
  | 12 => ("NoonWordsModel", 442, "far")
  | 13 => ("NoonWordsModel", 505, "teller")
  | 14 => ("NoonWordsModel", 507, "payer")
  | 15 => ("NoonWordsModel", 419, "n")
  | 16 => ("NoonWordsModel", 425, "coin")
  | 17 => ("NoonWordsModel", 427, "way")
  | 18 => ("NoonWordsModel", 428, "seasons")
  | 19 => ("NoonWordsModel", 432, "day")
  | 20 => ("NoonWordsModel", 434, "time")
  | 21 => ("NoonWordsModel", 436, "from")
  | 22 => ("NoonWordsModel", 438, "to")
  | 23 => ("NoonWordsModel", 514, "unless")
  | 24 => ("NoonWordsModel", 484, "not")
  | 25 => ("NoonWordsModel", 492, "and")
  | 26 => ("NoonWordsModel", 497, "or")
  | _ => ("", 0, "")
def mx_env (sp : Nat → Nat) (F1 : Nat → Option (Nat × (Nat → Int))) (A : Nat → Prop) (s : State) : Prop :=
  (∀ (k n : Nat) (f : Nat → Int), F1 k = some (n, f) → sp k < s.heap.size ∧ ¬ A (sp k) ∧ n < 2 ^ 31 ∧ va_X (sp k) n (fun j => Int32.ofInt (f j)) s s.heap) ∧
  va_Z "NoonWords" "LEAST" "[I" (.ref (sp 1)) A s s.heap ∧ va_Z "NoonWords" "MOST" "[I" (.ref (sp 2)) A s s.heap ∧ va_Z "NoonWords" "UNSAID" "[I" (.ref (sp 3)) A s s.heap ∧
  vx_Zq Bundle.tN "UNASSIGNED_STACK" Bundle.steD A s s.heap ∧ vx_Zq Bundle.tN "SUPPRESSED_SENTINEL" Bundle.listD A s s.heap ∧ (∀ x y : Nat, x < 4 → y < 4 → x ≠ y → va_Nc (mx_ex x) (mx_ex y) s) ∧
  (∀ k : Nat, k < 27 → vk_R (mx_so k).1 (mx_so k).2.1 (mx_so k).2.2 (sp (10 + k)) s ∧ va_O "java/lang/String" (sp (10 + k)) A s s.heap ∧ va_OF "java/lang/String" "coder" "B" (.int 0) (sp (10 + k)) A s s.heap ∧ va_OF "java/lang/String" "value" "[B" (.ref (sp (100 + k))) (sp (10 + k)) A s s.heap ∧ va_T .byte (sp (100 + k)) (mx_tx.getD k []).length (fun j => .int (Int32.ofInt ((mx_tx.getD k []).getD j 0))) A s s.heap) ∧
  va_Z "java/lang/String" "COMPACT_STRINGS" "Z" (.int 1) A s s.heap ∧ (va_Z "jdk/internal/util/Preconditions" "SIOOBE_FORMATTER" "Ljava/util/function/BiFunction;" .null A s s.heap ∨ va_Z "jdk/internal/util/Preconditions" "SIOOBE_FORMATTER" "Ljava/util/function/BiFunction;" (.ref (sp 200)) A s s.heap)
def mx_X (p : Program) (l : Launch) (s : State) (m : MethodId) (args : Array Value) (meth : Method) (c : Code) (R : Room) (cc : ByteArray) (nL : Nat) (own : String) (A : Nat → Prop) (D : va_G) (cy : Nat → ClassId) (sp : Nat → Nat) (F : mx_F) : Prop :=
  p.tables.exec = Jvm.exec ∧ c.code = cc ∧ c.maxLocals = nL ∧ s.vm.findClass own = some m.cls ∧ (∀ w ∈ mx_Ts, w.before args s = true) ∧
  va_K D vwCl [(cy 0, .int), (cy 1, .long), (cy 2, .boolean)] s ∧ (∀ q, s.heap.size ≤ q → A q) ∧ F.2.2.1 ≤ R.cells ∧ F.2.2.2 ≤ R.slots ∧ mx_env sp F.1 A s ∧ l.stackTraces = false ∧ 8 ≤ R.frames ∧ 200 ≤ R.locals ∧ meth.locks = false ∧ ∀ w ∈ lw_tbl, mx_nwK w = true → va_Nw w s
def mx_rep (s : State) (A : Nat → Prop) (D : va_G) (cy : Nat → ClassId) (al0 al : List Nat) (h : mx_H) (H : Heap) (locs : List Loc) : Prop :=
  (al.length = h.1.length ∧ ∃ b, al = al0 ++ b) ∧ mx_wf h.1 ∧ mx_wl h.1 ∧ va_P D vwCl (mx_wd cy al h) H ∧ va_D A (mx_wd cy al h) ∧ va_S A s.heap H locs
def mx_G (p : Program) (l : Launch) (e : Env) (R : Room) (s : State) (m : MethodId) (args : Array Value) (below : List Frame) (meth : Method) (c : Code) (nL : Nat) (A : Nat → Prop) (D : va_G) (cy : Nat → ClassId) (sp : Nat → Nat) (al0 : List Nat) (Qe : State → Prop)
    (pc : Nat) (L : mx_L) (st : List mx_v) (h : mx_H) (u : Nat × Nat) : Prop :=
  ∀ (al : List Nat) (H : Heap) (locs : List Loc) (ls : Array Slot) (vs : List Value), mx_rep s A D cy al0 al h H locs → mx_lr al sp nL L ls → mx_rs al sp st vs → W p l e R s m args below meth c H locs u.1 u.2 Qe (F0 m pc ls vs)
theorem mx_o32 (x : Int) : Int32.ofInt (w32 x) = Int32.ofInt x := Int32.ofInt_toInt _
theorem mx_o64 (x : Int) : Int64.ofInt (w64 x) = Int64.ofInt x := Int64.ofInt_toInt _
theorem mx_eq32 {x y : Int} : Int32.ofInt x = Int32.ofInt y ↔ w32 x = w32 y := Int32.toInt_inj.symm
theorem mx_lt32 {x y : Int} : Int32.ofInt x < Int32.ofInt y ↔ w32 x < w32 y := Int32.lt_iff_toInt_lt
theorem mx_le32 {x y : Int} : Int32.ofInt x ≤ Int32.ofInt y ↔ w32 x ≤ w32 y := Int32.le_iff_toInt_le
theorem mx_eq64 {x y : Int} : Int64.ofInt x = Int64.ofInt y ↔ w64 x = w64 y := Int64.toInt_inj.symm
theorem mx_lt64 {x y : Int} : Int64.ofInt x < Int64.ofInt y ↔ w64 x < w64 y := Int64.lt_iff_toInt_lt
theorem mx_0_32 : Int32.ofInt 0 = 0 := rfl
theorem mx_0_64 : Int64.ofInt 0 = 0 := rfl
theorem mx_w0 : w32 0 = 0 := by decide
theorem mx_w0l : w64 0 = 0 := by decide
theorem mx_ne0 {y : Int} (h : ¬ w32 y = 0) : ¬ Int32.ofInt y = 0 := fun e => h (by unfold w32; rw [e]; rfl)
theorem mx_ne0l {y : Int} (h : ¬ w64 y = 0) : ¬ Int64.ofInt y = 0 := fun e => h (by unfold w64; rw [e]; rfl)
theorem mx_inI {i : Int} {n : Nat} (h : mx_in i n) : vp_in (Int32.ofInt i) n := vp_in_iff.mpr h
theorem mx_cl (i : Int) : (Int32.ofInt i).toNatClampNeg = mx_at i := rfl
theorem mx_i2l (x : Int) : (Int32.ofInt x).toInt64 = Int64.ofInt (w32 x) := by
  apply Int64.toInt_inj.mp
  rw [Int32.toInt_toInt64]
  unfold w32
  have h1 := Int32.le_toInt (Int32.ofInt x)
  have h2 := Int32.toInt_lt (Int32.ofInt x)
  rw [Int64.toInt_ofInt_of_le] <;> omega
theorem mx_l2i (x : Int) : (Int64.ofInt x).toInt32 = Int32.ofInt x := Int64.toInt32_ofInt
theorem mx_lcmpI (x y : Int) : lg_cmp (Int64.ofInt x) (Int64.ofInt y) = Int32.ofInt (mx_lcmp x y) := by
  unfold lg_cmp mx_lcmp
  simp only [gt_iff_lt, mx_lt64, mx_eq64]
  split
  · rfl
  · split <;> rfl
section MXS
variable {p : Program} {l : Launch} {e : Env} {R : Room} {s : State} {m : MethodId} {args : Array Value} {below : List Frame} {meth : Method} {c : Code} {cc : ByteArray} {nL : Nat} {own : String} {A : Nat → Prop} {D : va_G} {cy : Nat → ClassId} {sp : Nat → Nat} {F : mx_F} {al0 : List Nat} {Qe : State → Prop} {pc : Nat} {L : mx_L} {st : List mx_v} {h : mx_H} {u : Nat × Nat}
theorem mx_s_iconst (X : mx_X p l s m args meth c R cc nL own A D cy sp F) {n : Int} (hd : decode cc pc = .ok (.iconst n, 1))  (k : mx_G p l e R s m args below meth c nL A D cy sp al0 Qe (pc + 1) L (mx_I n :: st) h u) : mx_G p l e R s m args below meth c nL A D cy sp al0 Qe pc L (st) h u := by
  intro al H locs ls vs hr hl hs
  exact lv_iconst X.1 X.2.1 hd rfl (k al H locs ls _ hr hl ⟨_, _, rfl, rfl, hs⟩)
theorem mx_s_bipush (X : mx_X p l s m args meth c R cc nL own A D cy sp F) {n : Int} (hd : decode cc pc = .ok (.bipush n, 2)) (hn : (Int8.ofInt n).toInt32 = Int32.ofInt n) (k : mx_G p l e R s m args below meth c nL A D cy sp al0 Qe (pc + 2) L (mx_I n :: st) h u) : mx_G p l e R s m args below meth c nL A D cy sp al0 Qe pc L (st) h u := by
  intro al H locs ls vs hr hl hs
  exact lv_bipush X.1 X.2.1 hd hn (k al H locs ls _ hr hl ⟨_, _, rfl, rfl, hs⟩)
theorem mx_s_sipush (X : mx_X p l s m args meth c R cc nL own A D cy sp F) {n : Int} (hd : decode cc pc = .ok (.sipush n, 3)) (hn : (Int16.ofInt n).toInt32 = Int32.ofInt n) (k : mx_G p l e R s m args below meth c nL A D cy sp al0 Qe (pc + 3) L (mx_I n :: st) h u) : mx_G p l e R s m args below meth c nL A D cy sp al0 Qe pc L (st) h u := by
  intro al H locs ls vs hr hl hs
  exact lv_sipush X.1 X.2.1 hd hn (k al H locs ls _ hr hl ⟨_, _, rfl, rfl, hs⟩)
theorem mx_s_lconst (X : mx_X p l s m args meth c R cc nL own A D cy sp F) {n : Fin 2} (hd : decode cc pc = .ok (.lconst n, 1))  (k : mx_G p l e R s m args below meth c nL A D cy sp al0 Qe (pc + 1) L (mx_J ((n : Nat) : Int) :: st) h u) : mx_G p l e R s m args below meth c nL A D cy sp al0 Qe pc L (st) h u := by
  intro al H locs ls vs hr hl hs
  exact lv_lconst X.1 X.2.1 hd (v := Int64.ofInt ((n : Nat) : Int)) rfl (k al H locs ls _ hr hl ⟨_, _, rfl, rfl, hs⟩)
theorem mx_s_iload_n (X : mx_X p l s m args meth c R cc nL own A D cy sp F) {k : Fin 4} {n : Int} (hd : decode cc pc = .ok (.iload_n k, 1)) (hv : L[(k : Nat)]? = some (some (mx_I n))) (k : mx_G p l e R s m args below meth c nL A D cy sp al0 Qe (pc + 1) L (mx_I n :: st) h u) : mx_G p l e R s m args below meth c nL A D cy sp al0 Qe pc L (st) h u := by
  intro al H locs ls vs hr hl hs
  obtain ⟨w, rfl, h2⟩ := hl.2.2.2 _ _ hv
  exact lv_iload_n X.1 X.2.1 hd rfl h2 (k al H locs ls _ hr hl ⟨_, _, rfl, rfl, hs⟩)
theorem mx_s_iload (X : mx_X p l s m args meth c R cc nL own A D cy sp F) {i : Nat} {n : Int} (hd : decode cc pc = .ok (.iload i, 2)) (hv : L[i]? = some (some (mx_I n))) (k : mx_G p l e R s m args below meth c nL A D cy sp al0 Qe (pc + 2) L (mx_I n :: st) h u) : mx_G p l e R s m args below meth c nL A D cy sp al0 Qe pc L (st) h u := by
  intro al H locs ls vs hr hl hs
  obtain ⟨w, rfl, h2⟩ := hl.2.2.2 _ _ hv
  exact lv_iload X.1 X.2.1 hd h2 (k al H locs ls _ hr hl ⟨_, _, rfl, rfl, hs⟩)
theorem mx_s_lload_n (X : mx_X p l s m args meth c R cc nL own A D cy sp F) {k : Fin 4} {n : Int} (hd : decode cc pc = .ok (.lload_n k, 1)) (hv : L[(k : Nat)]? = some (some (mx_J n))) (k : mx_G p l e R s m args below meth c nL A D cy sp al0 Qe (pc + 1) L (mx_J n :: st) h u) : mx_G p l e R s m args below meth c nL A D cy sp al0 Qe pc L (st) h u := by
  intro al H locs ls vs hr hl hs
  obtain ⟨w, rfl, h2⟩ := hl.2.2.2 _ _ hv
  exact lv_lload_n X.1 X.2.1 hd rfl h2 (k al H locs ls _ hr hl ⟨_, _, rfl, rfl, hs⟩)
theorem mx_s_lload (X : mx_X p l s m args meth c R cc nL own A D cy sp F) {i : Nat} {n : Int} (hd : decode cc pc = .ok (.lload i, 2)) (hv : L[i]? = some (some (mx_J n))) (k : mx_G p l e R s m args below meth c nL A D cy sp al0 Qe (pc + 2) L (mx_J n :: st) h u) : mx_G p l e R s m args below meth c nL A D cy sp al0 Qe pc L (st) h u := by
  intro al H locs ls vs hr hl hs
  obtain ⟨w, rfl, h2⟩ := hl.2.2.2 _ _ hv
  exact lv_lload X.1 X.2.1 hd h2 (k al H locs ls _ hr hl ⟨_, _, rfl, rfl, hs⟩)
theorem mx_s_aload_n (X : mx_X p l s m args meth c R cc nL own A D cy sp F) {i : Fin 4} {q : Nat} (hd : decode cc pc = .ok (.aload_n i, 1)) (hv : L[(i : Nat)]? = some (some (mx_R q))) (k : mx_G p l e R s m args below meth c nL A D cy sp al0 Qe (pc + 1) L (mx_R q :: st) h u) : mx_G p l e R s m args below meth c nL A D cy sp al0 Qe pc L (st) h u := by
  intro al H locs ls vs hr hl hs
  obtain ⟨w, ⟨a, h1, rfl⟩, h2⟩ := hl.2.2.2 _ _ hv
  exact lv_aload_n X.1 X.2.1 hd rfl h2 (k al H locs ls _ hr hl ⟨_, _, rfl, ⟨a, h1, rfl⟩, hs⟩)
theorem mx_s_aload (X : mx_X p l s m args meth c R cc nL own A D cy sp F) {i : Nat} {q : Nat} (hd : decode cc pc = .ok (.aload i, 2)) (hv : L[i]? = some (some (mx_R q))) (k : mx_G p l e R s m args below meth c nL A D cy sp al0 Qe (pc + 2) L (mx_R q :: st) h u) : mx_G p l e R s m args below meth c nL A D cy sp al0 Qe pc L (st) h u := by
  intro al H locs ls vs hr hl hs
  obtain ⟨w, ⟨a, h1, rfl⟩, h2⟩ := hl.2.2.2 _ _ hv
  exact lv_aload X.1 X.2.1 hd h2 (k al H locs ls _ hr hl ⟨_, _, rfl, ⟨a, h1, rfl⟩, hs⟩)
theorem mx_s_aloadS_n (X : mx_X p l s m args meth c R cc nL own A D cy sp F) {i : Fin 4} {q : Nat} (hd : decode cc pc = .ok (.aload_n i, 1)) (hv : L[(i : Nat)]? = some (some (mx_S q))) (k : mx_G p l e R s m args below meth c nL A D cy sp al0 Qe (pc + 1) L (mx_S q :: st) h u) : mx_G p l e R s m args below meth c nL A D cy sp al0 Qe pc L (st) h u := by
  intro al H locs ls vs hr hl hs
  obtain ⟨w, rfl, h2⟩ := hl.2.2.2 _ _ hv
  exact lv_aload_n X.1 X.2.1 hd rfl h2 (k al H locs ls _ hr hl ⟨_, _, rfl, rfl, hs⟩)
theorem mx_s_aloadS (X : mx_X p l s m args meth c R cc nL own A D cy sp F) {i : Nat} {q : Nat} (hd : decode cc pc = .ok (.aload i, 2)) (hv : L[i]? = some (some (mx_S q))) (k : mx_G p l e R s m args below meth c nL A D cy sp al0 Qe (pc + 2) L (mx_S q :: st) h u) : mx_G p l e R s m args below meth c nL A D cy sp al0 Qe pc L (st) h u := by
  intro al H locs ls vs hr hl hs
  obtain ⟨w, rfl, h2⟩ := hl.2.2.2 _ _ hv
  exact lv_aload X.1 X.2.1 hd h2 (k al H locs ls _ hr hl ⟨_, _, rfl, rfl, hs⟩)
theorem mx_s_istore_n (X : mx_X p l s m args meth c R cc nL own A D cy sp F) {j : Fin 4} {i : Nat} {n : Int} (hd : decode cc pc = .ok (.istore_n j, 1)) (hj : (j : Nat) = i) (hi : i < nL) (k : mx_G p l e R s m args below meth c nL A D cy sp al0 Qe (pc + 1) (mx_st1 L i (mx_I n)) st h u) : mx_G p l e R s m args below meth c nL A D cy sp al0 Qe pc L (mx_I n :: st) h u := by
  intro al H locs ls vs hr hl hs
  obtain ⟨_, _, rfl, rfl, hs⟩ := hs
  exact lv_istore_n X.1 X.2.1 hd hj (mx_lvA_has hl.1 hl.2.1) hi rfl fun ls' hl' => k al H locs ls' _ hr (hl.st1 (v := mx_I n) rfl hl') hs
theorem mx_s_istore (X : mx_X p l s m args meth c R cc nL own A D cy sp F) {i : Nat} {n : Int} (hd : decode cc pc = .ok (.istore i, 2)) (hi : i < nL) (k : mx_G p l e R s m args below meth c nL A D cy sp al0 Qe (pc + 2) (mx_st1 L i (mx_I n)) st h u) : mx_G p l e R s m args below meth c nL A D cy sp al0 Qe pc L (mx_I n :: st) h u := by
  intro al H locs ls vs hr hl hs
  obtain ⟨_, _, rfl, rfl, hs⟩ := hs
  exact lv_istore X.1 X.2.1 hd (mx_lvA_has hl.1 hl.2.1) hi rfl fun ls' hl' => k al H locs ls' _ hr (hl.st1 (v := mx_I n) rfl hl') hs
theorem mx_s_lstore_n (X : mx_X p l s m args meth c R cc nL own A D cy sp F) {j : Fin 4} {i : Nat} {n : Int} (hd : decode cc pc = .ok (.lstore_n j, 1)) (hj : (j : Nat) = i) (hi : i + 1 < nL) (k : mx_G p l e R s m args below meth c nL A D cy sp al0 Qe (pc + 1) (mx_st2 L i (mx_J n)) st h u) : mx_G p l e R s m args below meth c nL A D cy sp al0 Qe pc L (mx_J n :: st) h u := by
  intro al H locs ls vs hr hl hs
  obtain ⟨_, _, rfl, rfl, hs⟩ := hs
  exact lv_lstore_n X.1 X.2.1 hd hj (mx_lvA_has hl.1 hl.2.1) hi rfl fun ls' hl' => k al H locs ls' _ hr (hl.st2 (v := mx_J n) rfl hl') hs
theorem mx_s_lstore (X : mx_X p l s m args meth c R cc nL own A D cy sp F) {i : Nat} {n : Int} (hd : decode cc pc = .ok (.lstore i, 2)) (hi : i + 1 < nL) (k : mx_G p l e R s m args below meth c nL A D cy sp al0 Qe (pc + 2) (mx_st2 L i (mx_J n)) st h u) : mx_G p l e R s m args below meth c nL A D cy sp al0 Qe pc L (mx_J n :: st) h u := by
  intro al H locs ls vs hr hl hs
  obtain ⟨_, _, rfl, rfl, hs⟩ := hs
  exact lv_lstore X.1 X.2.1 hd (mx_lvA_has hl.1 hl.2.1) hi rfl fun ls' hl' => k al H locs ls' _ hr (hl.st2 (v := mx_J n) rfl hl') hs
theorem mx_s_astore_n (X : mx_X p l s m args meth c R cc nL own A D cy sp F) {j : Fin 4} {i : Nat} {n : Nat} (hd : decode cc pc = .ok (.astore_n j, 1)) (hj : (j : Nat) = i) (hi : i < nL) (k : mx_G p l e R s m args below meth c nL A D cy sp al0 Qe (pc + 1) (mx_st1 L i (mx_R n)) st h u) : mx_G p l e R s m args below meth c nL A D cy sp al0 Qe pc L (mx_R n :: st) h u := by
  intro al H locs ls vs hr hl hs
  obtain ⟨_, _, rfl, ⟨a, ha, rfl⟩, hs⟩ := hs
  exact lv_astore_n X.1 X.2.1 hd hj (mx_lvA_has hl.1 hl.2.1) hi rfl fun ls' hl' => k al H locs ls' _ hr (hl.st1 (v := mx_R n) ⟨a, ha, rfl⟩ hl') hs
theorem mx_s_astore (X : mx_X p l s m args meth c R cc nL own A D cy sp F) {i : Nat} {n : Nat} (hd : decode cc pc = .ok (.astore i, 2)) (hi : i < nL) (k : mx_G p l e R s m args below meth c nL A D cy sp al0 Qe (pc + 2) (mx_st1 L i (mx_R n)) st h u) : mx_G p l e R s m args below meth c nL A D cy sp al0 Qe pc L (mx_R n :: st) h u := by
  intro al H locs ls vs hr hl hs
  obtain ⟨_, _, rfl, ⟨a, ha, rfl⟩, hs⟩ := hs
  exact lv_astore X.1 X.2.1 hd (mx_lvA_has hl.1 hl.2.1) hi rfl fun ls' hl' => k al H locs ls' _ hr (hl.st1 (v := mx_R n) ⟨a, ha, rfl⟩ hl') hs
theorem mx_s_iinc (X : mx_X p l s m args meth c R cc nL own A D cy sp F) {i : Nat} {n x : Int} (hd : decode cc pc = .ok (.iinc i n, 3)) (hi : i < nL) (hv : L[i]? = some (some (mx_I x))) (k : mx_G p l e R s m args below meth c nL A D cy sp al0 Qe (pc + 3) (mx_st1 L i (mx_I (x + n))) st h u) : mx_G p l e R s m args below meth c nL A D cy sp al0 Qe pc L st h u := by
  intro al H locs ls vs hr hl hs
  obtain ⟨w, rfl, h2⟩ := hl.2.2.2 _ _ hv
  obtain ⟨j, hj⟩ := List.getElem?_of_mem (mx_lvA_mem.mpr h2)
  exact lv_iinc X.1 X.2.1 hd (mx_lvA_has hl.1 hl.2.1) hj (v := Int32.ofInt (x + n)) (Int32.ofInt_add x n).symm hi rfl fun ls' hl' => k al H locs ls' _ hr (hl.st1 (v := mx_I (x + n)) rfl hl') hs
theorem mx_s_iadd (X : mx_X p l s m args meth c R cc nL own A D cy sp F) {x y : Int} (hd : decode cc pc = .ok (.iadd, 1))  (k : mx_G p l e R s m args below meth c nL A D cy sp al0 Qe (pc + 1) L (mx_I (x + y) :: st) h u) : mx_G p l e R s m args below meth c nL A D cy sp al0 Qe pc L (mx_I y :: mx_I x :: st) h u := by
  intro al H locs ls vs hr hl hs
  obtain ⟨_, _, rfl, rfl, ⟨_, _, rfl, rfl, hs⟩⟩ := hs
  exact lv_iadd X.1 X.2.1 hd (k al H locs ls _ hr hl ⟨_, _, rfl, congrArg Value.int (Int32.ofInt_add x y).symm, hs⟩)
theorem mx_s_isub (X : mx_X p l s m args meth c R cc nL own A D cy sp F) {x y : Int} (hd : decode cc pc = .ok (.isub, 1))  (k : mx_G p l e R s m args below meth c nL A D cy sp al0 Qe (pc + 1) L (mx_I (x - y) :: st) h u) : mx_G p l e R s m args below meth c nL A D cy sp al0 Qe pc L (mx_I y :: mx_I x :: st) h u := by
  intro al H locs ls vs hr hl hs
  obtain ⟨_, _, rfl, rfl, ⟨_, _, rfl, rfl, hs⟩⟩ := hs
  exact lv_isub X.1 X.2.1 hd (k al H locs ls _ hr hl ⟨_, _, rfl, congrArg Value.int (Int32.ofInt_sub x y).symm, hs⟩)
theorem mx_s_imul (X : mx_X p l s m args meth c R cc nL own A D cy sp F) {x y : Int} (hd : decode cc pc = .ok (.imul, 1))  (k : mx_G p l e R s m args below meth c nL A D cy sp al0 Qe (pc + 1) L (mx_I (x * y) :: st) h u) : mx_G p l e R s m args below meth c nL A D cy sp al0 Qe pc L (mx_I y :: mx_I x :: st) h u := by
  intro al H locs ls vs hr hl hs
  obtain ⟨_, _, rfl, rfl, ⟨_, _, rfl, rfl, hs⟩⟩ := hs
  exact lv_imul X.1 X.2.1 hd (k al H locs ls _ hr hl ⟨_, _, rfl, congrArg Value.int (Int32.ofInt_mul x y).symm, hs⟩)
theorem mx_s_iand (X : mx_X p l s m args meth c R cc nL own A D cy sp F) {x y : Int} (hd : decode cc pc = .ok (.iand, 1))  (k : mx_G p l e R s m args below meth c nL A D cy sp al0 Qe (pc + 1) L (mx_I (mx_iand x y) :: st) h u) : mx_G p l e R s m args below meth c nL A D cy sp al0 Qe pc L (mx_I y :: mx_I x :: st) h u := by
  intro al H locs ls vs hr hl hs
  obtain ⟨_, _, rfl, rfl, ⟨_, _, rfl, rfl, hs⟩⟩ := hs
  exact lv_iand X.1 X.2.1 hd (k al H locs ls _ hr hl ⟨_, _, rfl, congrArg Value.int (Int32.ofInt_toInt _).symm, hs⟩)
theorem mx_s_ior (X : mx_X p l s m args meth c R cc nL own A D cy sp F) {x y : Int} (hd : decode cc pc = .ok (.ior, 1))  (k : mx_G p l e R s m args below meth c nL A D cy sp al0 Qe (pc + 1) L (mx_I (mx_ior x y) :: st) h u) : mx_G p l e R s m args below meth c nL A D cy sp al0 Qe pc L (mx_I y :: mx_I x :: st) h u := by
  intro al H locs ls vs hr hl hs
  obtain ⟨_, _, rfl, rfl, ⟨_, _, rfl, rfl, hs⟩⟩ := hs
  exact lv_ior X.1 X.2.1 hd (k al H locs ls _ hr hl ⟨_, _, rfl, congrArg Value.int (Int32.ofInt_toInt _).symm, hs⟩)
theorem mx_s_ixor (X : mx_X p l s m args meth c R cc nL own A D cy sp F) {x y : Int} (hd : decode cc pc = .ok (.ixor, 1))  (k : mx_G p l e R s m args below meth c nL A D cy sp al0 Qe (pc + 1) L (mx_I (mx_ixor x y) :: st) h u) : mx_G p l e R s m args below meth c nL A D cy sp al0 Qe pc L (mx_I y :: mx_I x :: st) h u := by
  intro al H locs ls vs hr hl hs
  obtain ⟨_, _, rfl, rfl, ⟨_, _, rfl, rfl, hs⟩⟩ := hs
  exact lv_ixor X.1 X.2.1 hd (k al H locs ls _ hr hl ⟨_, _, rfl, congrArg Value.int (Int32.ofInt_toInt _).symm, hs⟩)
theorem mx_s_idiv (X : mx_X p l s m args meth c R cc nL own A D cy sp F) {x y : Int} (hd : decode cc pc = .ok (.idiv, 1)) (hy : ¬ w32 y = 0) (k : mx_G p l e R s m args below meth c nL A D cy sp al0 Qe (pc + 1) L (mx_I (mx_idiv x y) :: st) h u) : mx_G p l e R s m args below meth c nL A D cy sp al0 Qe pc L (mx_I y :: mx_I x :: st) h u := by
  intro al H locs ls vs hr hl hs
  obtain ⟨_, _, rfl, rfl, ⟨_, _, rfl, rfl, hs⟩⟩ := hs
  exact lv_idiv X.1 X.2.1 hd (mx_ne0 hy) (k al H locs ls _ hr hl ⟨_, _, rfl, congrArg Value.int (Int32.ofInt_toInt _).symm, hs⟩)
theorem mx_s_irem (X : mx_X p l s m args meth c R cc nL own A D cy sp F) {x y : Int} (hd : decode cc pc = .ok (.irem, 1)) (hy : ¬ w32 y = 0) (k : mx_G p l e R s m args below meth c nL A D cy sp al0 Qe (pc + 1) L (mx_I (mx_irem x y) :: st) h u) : mx_G p l e R s m args below meth c nL A D cy sp al0 Qe pc L (mx_I y :: mx_I x :: st) h u := by
  intro al H locs ls vs hr hl hs
  obtain ⟨_, _, rfl, rfl, ⟨_, _, rfl, rfl, hs⟩⟩ := hs
  exact lv_irem X.1 X.2.1 hd (mx_ne0 hy) (k al H locs ls _ hr hl ⟨_, _, rfl, congrArg Value.int (Int32.ofInt_toInt _).symm, hs⟩)
theorem mx_s_ladd (X : mx_X p l s m args meth c R cc nL own A D cy sp F) {x y : Int} (hd : decode cc pc = .ok (.ladd, 1))  (k : mx_G p l e R s m args below meth c nL A D cy sp al0 Qe (pc + 1) L (mx_J (x + y) :: st) h u) : mx_G p l e R s m args below meth c nL A D cy sp al0 Qe pc L (mx_J y :: mx_J x :: st) h u := by
  intro al H locs ls vs hr hl hs
  obtain ⟨_, _, rfl, rfl, ⟨_, _, rfl, rfl, hs⟩⟩ := hs
  exact lv_ladd X.1 X.2.1 hd (k al H locs ls _ hr hl ⟨_, _, rfl, congrArg Value.long (Int64.ofInt_add x y).symm, hs⟩)
theorem mx_s_lsub (X : mx_X p l s m args meth c R cc nL own A D cy sp F) {x y : Int} (hd : decode cc pc = .ok (.lsub, 1))  (k : mx_G p l e R s m args below meth c nL A D cy sp al0 Qe (pc + 1) L (mx_J (x - y) :: st) h u) : mx_G p l e R s m args below meth c nL A D cy sp al0 Qe pc L (mx_J y :: mx_J x :: st) h u := by
  intro al H locs ls vs hr hl hs
  obtain ⟨_, _, rfl, rfl, ⟨_, _, rfl, rfl, hs⟩⟩ := hs
  exact lv_lsub X.1 X.2.1 hd (k al H locs ls _ hr hl ⟨_, _, rfl, congrArg Value.long (Int64.ofInt_sub x y).symm, hs⟩)
theorem mx_s_lmul (X : mx_X p l s m args meth c R cc nL own A D cy sp F) {x y : Int} (hd : decode cc pc = .ok (.lmul, 1))  (k : mx_G p l e R s m args below meth c nL A D cy sp al0 Qe (pc + 1) L (mx_J (x * y) :: st) h u) : mx_G p l e R s m args below meth c nL A D cy sp al0 Qe pc L (mx_J y :: mx_J x :: st) h u := by
  intro al H locs ls vs hr hl hs
  obtain ⟨_, _, rfl, rfl, ⟨_, _, rfl, rfl, hs⟩⟩ := hs
  exact lv_lmul X.1 X.2.1 hd (k al H locs ls _ hr hl ⟨_, _, rfl, congrArg Value.long (Int64.ofInt_mul x y).symm, hs⟩)
theorem mx_s_land (X : mx_X p l s m args meth c R cc nL own A D cy sp F) {x y : Int} (hd : decode cc pc = .ok (.land, 1))  (k : mx_G p l e R s m args below meth c nL A D cy sp al0 Qe (pc + 1) L (mx_J (mx_land x y) :: st) h u) : mx_G p l e R s m args below meth c nL A D cy sp al0 Qe pc L (mx_J y :: mx_J x :: st) h u := by
  intro al H locs ls vs hr hl hs
  obtain ⟨_, _, rfl, rfl, ⟨_, _, rfl, rfl, hs⟩⟩ := hs
  exact lv_land X.1 X.2.1 hd (k al H locs ls _ hr hl ⟨_, _, rfl, congrArg Value.long (Int64.ofInt_toInt _).symm, hs⟩)
theorem mx_s_lor (X : mx_X p l s m args meth c R cc nL own A D cy sp F) {x y : Int} (hd : decode cc pc = .ok (.lor, 1))  (k : mx_G p l e R s m args below meth c nL A D cy sp al0 Qe (pc + 1) L (mx_J (mx_lor x y) :: st) h u) : mx_G p l e R s m args below meth c nL A D cy sp al0 Qe pc L (mx_J y :: mx_J x :: st) h u := by
  intro al H locs ls vs hr hl hs
  obtain ⟨_, _, rfl, rfl, ⟨_, _, rfl, rfl, hs⟩⟩ := hs
  exact lv_lor X.1 X.2.1 hd (k al H locs ls _ hr hl ⟨_, _, rfl, congrArg Value.long (Int64.ofInt_toInt _).symm, hs⟩)
theorem mx_s_lxor (X : mx_X p l s m args meth c R cc nL own A D cy sp F) {x y : Int} (hd : decode cc pc = .ok (.lxor, 1))  (k : mx_G p l e R s m args below meth c nL A D cy sp al0 Qe (pc + 1) L (mx_J (mx_lxor x y) :: st) h u) : mx_G p l e R s m args below meth c nL A D cy sp al0 Qe pc L (mx_J y :: mx_J x :: st) h u := by
  intro al H locs ls vs hr hl hs
  obtain ⟨_, _, rfl, rfl, ⟨_, _, rfl, rfl, hs⟩⟩ := hs
  exact lv_lxor X.1 X.2.1 hd (k al H locs ls _ hr hl ⟨_, _, rfl, congrArg Value.long (Int64.ofInt_toInt _).symm, hs⟩)
theorem mx_s_ldiv (X : mx_X p l s m args meth c R cc nL own A D cy sp F) {x y : Int} (hd : decode cc pc = .ok (.ldiv, 1)) (hy : ¬ w64 y = 0) (k : mx_G p l e R s m args below meth c nL A D cy sp al0 Qe (pc + 1) L (mx_J (mx_ldiv x y) :: st) h u) : mx_G p l e R s m args below meth c nL A D cy sp al0 Qe pc L (mx_J y :: mx_J x :: st) h u := by
  intro al H locs ls vs hr hl hs
  obtain ⟨_, _, rfl, rfl, ⟨_, _, rfl, rfl, hs⟩⟩ := hs
  exact lv_ldiv X.1 X.2.1 hd (mx_ne0l hy) (k al H locs ls _ hr hl ⟨_, _, rfl, congrArg Value.long (Int64.ofInt_toInt _).symm, hs⟩)
theorem mx_s_lrem (X : mx_X p l s m args meth c R cc nL own A D cy sp F) {x y : Int} (hd : decode cc pc = .ok (.lrem, 1)) (hy : ¬ w64 y = 0) (k : mx_G p l e R s m args below meth c nL A D cy sp al0 Qe (pc + 1) L (mx_J (mx_lrem x y) :: st) h u) : mx_G p l e R s m args below meth c nL A D cy sp al0 Qe pc L (mx_J y :: mx_J x :: st) h u := by
  intro al H locs ls vs hr hl hs
  obtain ⟨_, _, rfl, rfl, ⟨_, _, rfl, rfl, hs⟩⟩ := hs
  exact lv_lrem X.1 X.2.1 hd (mx_ne0l hy) (k al H locs ls _ hr hl ⟨_, _, rfl, congrArg Value.long (Int64.ofInt_toInt _).symm, hs⟩)
theorem mx_s_ishl (X : mx_X p l s m args meth c R cc nL own A D cy sp F) {x y : Int} (hd : decode cc pc = .ok (.ishl, 1))  (k : mx_G p l e R s m args below meth c nL A D cy sp al0 Qe (pc + 1) L (mx_I (mx_ishl x y) :: st) h u) : mx_G p l e R s m args below meth c nL A D cy sp al0 Qe pc L (mx_I y :: mx_I x :: st) h u := by
  intro al H locs ls vs hr hl hs
  obtain ⟨_, _, rfl, rfl, ⟨_, _, rfl, rfl, hs⟩⟩ := hs
  exact lv_ishl X.1 X.2.1 hd (k al H locs ls _ hr hl ⟨_, _, rfl, congrArg Value.int (Int32.ofInt_toInt _).symm, hs⟩)
theorem mx_s_ishr (X : mx_X p l s m args meth c R cc nL own A D cy sp F) {x y : Int} (hd : decode cc pc = .ok (.ishr, 1))  (k : mx_G p l e R s m args below meth c nL A D cy sp al0 Qe (pc + 1) L (mx_I (mx_ishr x y) :: st) h u) : mx_G p l e R s m args below meth c nL A D cy sp al0 Qe pc L (mx_I y :: mx_I x :: st) h u := by
  intro al H locs ls vs hr hl hs
  obtain ⟨_, _, rfl, rfl, ⟨_, _, rfl, rfl, hs⟩⟩ := hs
  exact lv_ishr X.1 X.2.1 hd (k al H locs ls _ hr hl ⟨_, _, rfl, congrArg Value.int (Int32.ofInt_toInt _).symm, hs⟩)
theorem mx_s_iushr (X : mx_X p l s m args meth c R cc nL own A D cy sp F) {x y : Int} (hd : decode cc pc = .ok (.iushr, 1))  (k : mx_G p l e R s m args below meth c nL A D cy sp al0 Qe (pc + 1) L (mx_I (mx_iushr x y) :: st) h u) : mx_G p l e R s m args below meth c nL A D cy sp al0 Qe pc L (mx_I y :: mx_I x :: st) h u := by
  intro al H locs ls vs hr hl hs
  obtain ⟨_, _, rfl, rfl, ⟨_, _, rfl, rfl, hs⟩⟩ := hs
  exact lv_iushr X.1 X.2.1 hd rfl (k al H locs ls _ hr hl ⟨_, _, rfl, congrArg Value.int (Int32.ofInt_toInt _).symm, hs⟩)
theorem mx_s_lshl (X : mx_X p l s m args meth c R cc nL own A D cy sp F) {x y : Int} (hd : decode cc pc = .ok (.lshl, 1))  (k : mx_G p l e R s m args below meth c nL A D cy sp al0 Qe (pc + 1) L (mx_J (mx_lshl x y) :: st) h u) : mx_G p l e R s m args below meth c nL A D cy sp al0 Qe pc L (mx_I y :: mx_J x :: st) h u := by
  intro al H locs ls vs hr hl hs
  obtain ⟨_, _, rfl, rfl, ⟨_, _, rfl, rfl, hs⟩⟩ := hs
  exact lv_lshl X.1 X.2.1 hd rfl (k al H locs ls _ hr hl ⟨_, _, rfl, congrArg Value.long (Int64.ofInt_toInt _).symm, hs⟩)
theorem mx_s_lshr (X : mx_X p l s m args meth c R cc nL own A D cy sp F) {x y : Int} (hd : decode cc pc = .ok (.lshr, 1))  (k : mx_G p l e R s m args below meth c nL A D cy sp al0 Qe (pc + 1) L (mx_J (mx_lshr x y) :: st) h u) : mx_G p l e R s m args below meth c nL A D cy sp al0 Qe pc L (mx_I y :: mx_J x :: st) h u := by
  intro al H locs ls vs hr hl hs
  obtain ⟨_, _, rfl, rfl, ⟨_, _, rfl, rfl, hs⟩⟩ := hs
  exact lv_lshr X.1 X.2.1 hd rfl (k al H locs ls _ hr hl ⟨_, _, rfl, congrArg Value.long (Int64.ofInt_toInt _).symm, hs⟩)
theorem mx_s_lushr (X : mx_X p l s m args meth c R cc nL own A D cy sp F) {x y : Int} (hd : decode cc pc = .ok (.lushr, 1))  (k : mx_G p l e R s m args below meth c nL A D cy sp al0 Qe (pc + 1) L (mx_J (mx_lushr x y) :: st) h u) : mx_G p l e R s m args below meth c nL A D cy sp al0 Qe pc L (mx_I y :: mx_J x :: st) h u := by
  intro al H locs ls vs hr hl hs
  obtain ⟨_, _, rfl, rfl, ⟨_, _, rfl, rfl, hs⟩⟩ := hs
  exact lv_lushr X.1 X.2.1 hd rfl (k al H locs ls _ hr hl ⟨_, _, rfl, congrArg Value.long (Int64.ofInt_toInt _).symm, hs⟩)
theorem mx_s_ineg (X : mx_X p l s m args meth c R cc nL own A D cy sp F) {x : Int} (hd : decode cc pc = .ok (.ineg, 1))  (k : mx_G p l e R s m args below meth c nL A D cy sp al0 Qe (pc + 1) L (mx_I (-x) :: st) h u) : mx_G p l e R s m args below meth c nL A D cy sp al0 Qe pc L (mx_I x :: st) h u := by
  intro al H locs ls vs hr hl hs
  obtain ⟨_, _, rfl, rfl, hs⟩ := hs
  exact lv_ineg X.1 X.2.1 hd (k al H locs ls _ hr hl ⟨_, _, rfl, congrArg Value.int (Int32.ofInt_neg x).symm, hs⟩)
theorem mx_s_lneg (X : mx_X p l s m args meth c R cc nL own A D cy sp F) {x : Int} (hd : decode cc pc = .ok (.lneg, 1))  (k : mx_G p l e R s m args below meth c nL A D cy sp al0 Qe (pc + 1) L (mx_J (-x) :: st) h u) : mx_G p l e R s m args below meth c nL A D cy sp al0 Qe pc L (mx_J x :: st) h u := by
  intro al H locs ls vs hr hl hs
  obtain ⟨_, _, rfl, rfl, hs⟩ := hs
  exact lv_lneg X.1 X.2.1 hd (k al H locs ls _ hr hl ⟨_, _, rfl, congrArg Value.long (Int64.ofInt_neg x).symm, hs⟩)
theorem mx_s_i2l (X : mx_X p l s m args meth c R cc nL own A D cy sp F) {x : Int} (hd : decode cc pc = .ok (.i2l, 1))  (k : mx_G p l e R s m args below meth c nL A D cy sp al0 Qe (pc + 1) L (mx_J (w32 x) :: st) h u) : mx_G p l e R s m args below meth c nL A D cy sp al0 Qe pc L (mx_I x :: st) h u := by
  intro al H locs ls vs hr hl hs
  obtain ⟨_, _, rfl, rfl, hs⟩ := hs
  exact lv_i2l X.1 X.2.1 hd (mx_i2l x) (k al H locs ls _ hr hl ⟨_, _, rfl, rfl, hs⟩)
theorem mx_s_l2i (X : mx_X p l s m args meth c R cc nL own A D cy sp F) {x : Int} (hd : decode cc pc = .ok (.l2i, 1))  (k : mx_G p l e R s m args below meth c nL A D cy sp al0 Qe (pc + 1) L (mx_I x :: st) h u) : mx_G p l e R s m args below meth c nL A D cy sp al0 Qe pc L (mx_J x :: st) h u := by
  intro al H locs ls vs hr hl hs
  obtain ⟨_, _, rfl, rfl, hs⟩ := hs
  exact lv_l2i X.1 X.2.1 hd (mx_l2i x) (k al H locs ls _ hr hl ⟨_, _, rfl, rfl, hs⟩)
theorem mx_s_i2b (X : mx_X p l s m args meth c R cc nL own A D cy sp F) {x : Int} (hd : decode cc pc = .ok (.i2b, 1))  (k : mx_G p l e R s m args below meth c nL A D cy sp al0 Qe (pc + 1) L (mx_I (mx_i2b x) :: st) h u) : mx_G p l e R s m args below meth c nL A D cy sp al0 Qe pc L (mx_I x :: st) h u := by
  intro al H locs ls vs hr hl hs
  obtain ⟨_, _, rfl, rfl, hs⟩ := hs
  exact lv_i2b X.1 X.2.1 hd rfl (k al H locs ls _ hr hl ⟨_, _, rfl, congrArg Value.int (Int32.ofInt_toInt _).symm, hs⟩)
theorem mx_s_i2s (X : mx_X p l s m args meth c R cc nL own A D cy sp F) {x : Int} (hd : decode cc pc = .ok (.i2s, 1))  (k : mx_G p l e R s m args below meth c nL A D cy sp al0 Qe (pc + 1) L (mx_I (mx_i2s x) :: st) h u) : mx_G p l e R s m args below meth c nL A D cy sp al0 Qe pc L (mx_I x :: st) h u := by
  intro al H locs ls vs hr hl hs
  obtain ⟨_, _, rfl, rfl, hs⟩ := hs
  exact lv_i2s X.1 X.2.1 hd rfl (k al H locs ls _ hr hl ⟨_, _, rfl, congrArg Value.int (Int32.ofInt_toInt _).symm, hs⟩)
theorem mx_s_i2c (X : mx_X p l s m args meth c R cc nL own A D cy sp F) {x : Int} (hd : decode cc pc = .ok (.i2c, 1))  (k : mx_G p l e R s m args below meth c nL A D cy sp al0 Qe (pc + 1) L (mx_I (mx_i2c x) :: st) h u) : mx_G p l e R s m args below meth c nL A D cy sp al0 Qe pc L (mx_I x :: st) h u := by
  intro al H locs ls vs hr hl hs
  obtain ⟨_, _, rfl, rfl, hs⟩ := hs
  exact lv_i2c X.1 X.2.1 hd rfl (k al H locs ls _ hr hl ⟨_, _, rfl, congrArg Value.int (Int32.ofInt_toInt _).symm, hs⟩)
theorem mx_s_lcmp (X : mx_X p l s m args meth c R cc nL own A D cy sp F) {x y : Int} (hd : decode cc pc = .ok (.lcmp, 1))  (k : mx_G p l e R s m args below meth c nL A D cy sp al0 Qe (pc + 1) L (mx_I (mx_lcmp x y) :: st) h u) : mx_G p l e R s m args below meth c nL A D cy sp al0 Qe pc L (mx_J y :: mx_J x :: st) h u := by
  intro al H locs ls vs hr hl hs
  obtain ⟨_, _, rfl, rfl, ⟨_, _, rfl, rfl, hs⟩⟩ := hs
  exact W.lcmp X.1 X.2.1 hd (k al H locs ls _ hr hl ⟨_, _, rfl, congrArg Value.int (mx_lcmpI x y), hs⟩)
theorem mx_s_dup (X : mx_X p l s m args meth c R cc nL own A D cy sp F) {v : mx_v} (hd : decode cc pc = .ok (.dup, 1)) (hv : mx_cat v = 1) (k : mx_G p l e R s m args below meth c nL A D cy sp al0 Qe (pc + 1) L (v :: v :: st) h u) : mx_G p l e R s m args below meth c nL A D cy sp al0 Qe pc L (v :: st) h u := by
  intro al H locs ls vs hr hl hs
  obtain ⟨w, ws, rfl, h1, hs⟩ := hs
  exact lv_dup X.1 X.2.1 hd (h1.cat.trans hv) (k al H locs ls _ hr hl ⟨_, _, rfl, h1, _, _, rfl, h1, hs⟩)
theorem mx_s_pop (X : mx_X p l s m args meth c R cc nL own A D cy sp F) {v : mx_v} (hd : decode cc pc = .ok (.pop, 1)) (hv : mx_cat v = 1) (k : mx_G p l e R s m args below meth c nL A D cy sp al0 Qe (pc + 1) L (st) h u) : mx_G p l e R s m args below meth c nL A D cy sp al0 Qe pc L (v :: st) h u := by
  intro al H locs ls vs hr hl hs
  obtain ⟨w, ws, rfl, h1, hs⟩ := hs
  exact lv_pop X.1 X.2.1 hd (h1.cat.trans hv) (k al H locs ls _ hr hl hs)
theorem mx_s_pop2 (X : mx_X p l s m args meth c R cc nL own A D cy sp F) {n : Int} (hd : decode cc pc = .ok (.pop2, 1))  (k : mx_G p l e R s m args below meth c nL A D cy sp al0 Qe (pc + 1) L (st) h u) : mx_G p l e R s m args below meth c nL A D cy sp al0 Qe pc L (mx_J n :: st) h u := by
  intro al H locs ls vs hr hl hs
  obtain ⟨w, ws, rfl, h1, hs⟩ := hs
  exact lv_pop2_2 X.1 X.2.1 hd h1.cat (k al H locs ls _ hr hl hs)
theorem mx_s_dup2_11 (X : mx_X p l s m args meth c R cc nL own A D cy sp F) {v w : mx_v} (hd : decode cc pc = .ok (.dup2, 1)) (hv : mx_cat v = 1) (hw : mx_cat w = 1) (k : mx_G p l e R s m args below meth c nL A D cy sp al0 Qe (pc + 1) L (v :: w :: v :: w :: st) h u) : mx_G p l e R s m args below meth c nL A D cy sp al0 Qe pc L (v :: w :: st) h u := by
  intro al H locs ls vs hr hl hs
  obtain ⟨v', ws, rfl, h1, w', ws, rfl, h2, hs⟩ := hs
  exact lv_dup2_11 X.1 X.2.1 hd (h1.cat.trans hv) (h2.cat.trans hw) (k al H locs ls _ hr hl ⟨_, _, rfl, h1, _, _, rfl, h2, _, _, rfl, h1, _, _, rfl, h2, hs⟩)
theorem mx_s_dup2_2 (X : mx_X p l s m args meth c R cc nL own A D cy sp F) {n : Int} (hd : decode cc pc = .ok (.dup2, 1))  (k : mx_G p l e R s m args below meth c nL A D cy sp al0 Qe (pc + 1) L (mx_J n :: mx_J n :: st) h u) : mx_G p l e R s m args below meth c nL A D cy sp al0 Qe pc L (mx_J n :: st) h u := by
  intro al H locs ls vs hr hl hs
  obtain ⟨v', ws, rfl, h1, hs⟩ := hs
  exact lv_dup2_2 X.1 X.2.1 hd h1.cat (k al H locs ls _ hr hl ⟨_, _, rfl, h1, _, _, rfl, h1, hs⟩)
theorem mx_s_icmp_eq (X : mx_X p l s m args meth c R cc nL own A D cy sp F) {x y off : Int} {t : Nat} (hd : decode cc pc = .ok (.if_icmp .eq off, 3)) (ht : (pc : Int) + off = (t : Int)) (kt : mx_cmp .eq x y → mx_G p l e R s m args below meth c nL A D cy sp al0 Qe t L st h u) (kf : ¬ mx_cmp .eq x y → mx_G p l e R s m args below meth c nL A D cy sp al0 Qe (pc + 3) L st h u) : mx_G p l e R s m args below meth c nL A D cy sp al0 Qe pc L (mx_I y :: mx_I x :: st) h u := by
  intro al H locs ls vs hr hl hs
  obtain ⟨_, _, rfl, rfl, ⟨_, _, rfl, rfl, hs⟩⟩ := hs
  exact lv_icmp_eq X.1 X.2.1 hd ht (fun h9 => kt ((mx_eq32).mp h9) al H locs ls _ hr hl hs) (fun h9 => kf (fun e => h9 ((mx_eq32).mpr e)) al H locs ls _ hr hl hs)
theorem mx_s_if_eq (X : mx_X p l s m args meth c R cc nL own A D cy sp F) {x off : Int} {t : Nat} (hd : decode cc pc = .ok (.ifCond .eq off, 3)) (ht : (pc : Int) + off = (t : Int)) (kt : mx_cmp .eq x 0 → mx_G p l e R s m args below meth c nL A D cy sp al0 Qe t L st h u) (kf : ¬ mx_cmp .eq x 0 → mx_G p l e R s m args below meth c nL A D cy sp al0 Qe (pc + 3) L st h u) : mx_G p l e R s m args below meth c nL A D cy sp al0 Qe pc L (mx_I x :: st) h u := by
  intro al H locs ls vs hr hl hs
  obtain ⟨_, _, rfl, rfl, hs⟩ := hs
  exact lv_if_eq X.1 X.2.1 hd ht (fun h9 => kt ((mx_eq32).mp h9) al H locs ls _ hr hl hs) (fun h9 => kf (fun e => h9 ((mx_eq32).mpr e)) al H locs ls _ hr hl hs)
theorem mx_s_icmp_ne (X : mx_X p l s m args meth c R cc nL own A D cy sp F) {x y off : Int} {t : Nat} (hd : decode cc pc = .ok (.if_icmp .ne off, 3)) (ht : (pc : Int) + off = (t : Int)) (kt : mx_cmp .ne x y → mx_G p l e R s m args below meth c nL A D cy sp al0 Qe t L st h u) (kf : ¬ mx_cmp .ne x y → mx_G p l e R s m args below meth c nL A D cy sp al0 Qe (pc + 3) L st h u) : mx_G p l e R s m args below meth c nL A D cy sp al0 Qe pc L (mx_I y :: mx_I x :: st) h u := by
  intro al H locs ls vs hr hl hs
  obtain ⟨_, _, rfl, rfl, ⟨_, _, rfl, rfl, hs⟩⟩ := hs
  exact lv_icmp_ne X.1 X.2.1 hd ht (fun h9 => kt (fun e => h9 (mx_eq32.mpr e)) al H locs ls _ hr hl hs) (fun h9 => kf (fun e => e (mx_eq32.mp h9)) al H locs ls _ hr hl hs)
theorem mx_s_if_ne (X : mx_X p l s m args meth c R cc nL own A D cy sp F) {x off : Int} {t : Nat} (hd : decode cc pc = .ok (.ifCond .ne off, 3)) (ht : (pc : Int) + off = (t : Int)) (kt : mx_cmp .ne x 0 → mx_G p l e R s m args below meth c nL A D cy sp al0 Qe t L st h u) (kf : ¬ mx_cmp .ne x 0 → mx_G p l e R s m args below meth c nL A D cy sp al0 Qe (pc + 3) L st h u) : mx_G p l e R s m args below meth c nL A D cy sp al0 Qe pc L (mx_I x :: st) h u := by
  intro al H locs ls vs hr hl hs
  obtain ⟨_, _, rfl, rfl, hs⟩ := hs
  exact lv_if_ne X.1 X.2.1 hd ht (fun h9 => kt (fun e => h9 (mx_eq32.mpr e)) al H locs ls _ hr hl hs) (fun h9 => kf (fun e => e (mx_eq32.mp h9)) al H locs ls _ hr hl hs)
theorem mx_s_icmp_lt (X : mx_X p l s m args meth c R cc nL own A D cy sp F) {x y off : Int} {t : Nat} (hd : decode cc pc = .ok (.if_icmp .lt off, 3)) (ht : (pc : Int) + off = (t : Int)) (kt : mx_cmp .lt x y → mx_G p l e R s m args below meth c nL A D cy sp al0 Qe t L st h u) (kf : ¬ mx_cmp .lt x y → mx_G p l e R s m args below meth c nL A D cy sp al0 Qe (pc + 3) L st h u) : mx_G p l e R s m args below meth c nL A D cy sp al0 Qe pc L (mx_I y :: mx_I x :: st) h u := by
  intro al H locs ls vs hr hl hs
  obtain ⟨_, _, rfl, rfl, ⟨_, _, rfl, rfl, hs⟩⟩ := hs
  exact lv_icmp_lt X.1 X.2.1 hd ht (fun h9 => kt ((mx_lt32).mp h9) al H locs ls _ hr hl hs) (fun h9 => kf (fun e => h9 ((mx_lt32).mpr e)) al H locs ls _ hr hl hs)
theorem mx_s_if_lt (X : mx_X p l s m args meth c R cc nL own A D cy sp F) {x off : Int} {t : Nat} (hd : decode cc pc = .ok (.ifCond .lt off, 3)) (ht : (pc : Int) + off = (t : Int)) (kt : mx_cmp .lt x 0 → mx_G p l e R s m args below meth c nL A D cy sp al0 Qe t L st h u) (kf : ¬ mx_cmp .lt x 0 → mx_G p l e R s m args below meth c nL A D cy sp al0 Qe (pc + 3) L st h u) : mx_G p l e R s m args below meth c nL A D cy sp al0 Qe pc L (mx_I x :: st) h u := by
  intro al H locs ls vs hr hl hs
  obtain ⟨_, _, rfl, rfl, hs⟩ := hs
  exact lv_if_lt X.1 X.2.1 hd ht (fun h9 => kt ((mx_lt32).mp h9) al H locs ls _ hr hl hs) (fun h9 => kf (fun e => h9 ((mx_lt32).mpr e)) al H locs ls _ hr hl hs)
theorem mx_s_icmp_ge (X : mx_X p l s m args meth c R cc nL own A D cy sp F) {x y off : Int} {t : Nat} (hd : decode cc pc = .ok (.if_icmp .ge off, 3)) (ht : (pc : Int) + off = (t : Int)) (kt : mx_cmp .ge x y → mx_G p l e R s m args below meth c nL A D cy sp al0 Qe t L st h u) (kf : ¬ mx_cmp .ge x y → mx_G p l e R s m args below meth c nL A D cy sp al0 Qe (pc + 3) L st h u) : mx_G p l e R s m args below meth c nL A D cy sp al0 Qe pc L (mx_I y :: mx_I x :: st) h u := by
  intro al H locs ls vs hr hl hs
  obtain ⟨_, _, rfl, rfl, ⟨_, _, rfl, rfl, hs⟩⟩ := hs
  exact lv_icmp_ge X.1 X.2.1 hd ht (fun h9 => kt ((mx_le32).mp h9) al H locs ls _ hr hl hs) (fun h9 => kf (fun e => h9 ((mx_le32).mpr e)) al H locs ls _ hr hl hs)
theorem mx_s_if_ge (X : mx_X p l s m args meth c R cc nL own A D cy sp F) {x off : Int} {t : Nat} (hd : decode cc pc = .ok (.ifCond .ge off, 3)) (ht : (pc : Int) + off = (t : Int)) (kt : mx_cmp .ge x 0 → mx_G p l e R s m args below meth c nL A D cy sp al0 Qe t L st h u) (kf : ¬ mx_cmp .ge x 0 → mx_G p l e R s m args below meth c nL A D cy sp al0 Qe (pc + 3) L st h u) : mx_G p l e R s m args below meth c nL A D cy sp al0 Qe pc L (mx_I x :: st) h u := by
  intro al H locs ls vs hr hl hs
  obtain ⟨_, _, rfl, rfl, hs⟩ := hs
  exact lv_if_ge X.1 X.2.1 hd ht (fun h9 => kt ((mx_le32).mp h9) al H locs ls _ hr hl hs) (fun h9 => kf (fun e => h9 ((mx_le32).mpr e)) al H locs ls _ hr hl hs)
theorem mx_s_icmp_gt (X : mx_X p l s m args meth c R cc nL own A D cy sp F) {x y off : Int} {t : Nat} (hd : decode cc pc = .ok (.if_icmp .gt off, 3)) (ht : (pc : Int) + off = (t : Int)) (kt : mx_cmp .gt x y → mx_G p l e R s m args below meth c nL A D cy sp al0 Qe t L st h u) (kf : ¬ mx_cmp .gt x y → mx_G p l e R s m args below meth c nL A D cy sp al0 Qe (pc + 3) L st h u) : mx_G p l e R s m args below meth c nL A D cy sp al0 Qe pc L (mx_I y :: mx_I x :: st) h u := by
  intro al H locs ls vs hr hl hs
  obtain ⟨_, _, rfl, rfl, ⟨_, _, rfl, rfl, hs⟩⟩ := hs
  exact lv_icmp_gt X.1 X.2.1 hd ht (fun h9 => kt ((mx_lt32).mp h9) al H locs ls _ hr hl hs) (fun h9 => kf (fun e => h9 ((mx_lt32).mpr e)) al H locs ls _ hr hl hs)
theorem mx_s_if_gt (X : mx_X p l s m args meth c R cc nL own A D cy sp F) {x off : Int} {t : Nat} (hd : decode cc pc = .ok (.ifCond .gt off, 3)) (ht : (pc : Int) + off = (t : Int)) (kt : mx_cmp .gt x 0 → mx_G p l e R s m args below meth c nL A D cy sp al0 Qe t L st h u) (kf : ¬ mx_cmp .gt x 0 → mx_G p l e R s m args below meth c nL A D cy sp al0 Qe (pc + 3) L st h u) : mx_G p l e R s m args below meth c nL A D cy sp al0 Qe pc L (mx_I x :: st) h u := by
  intro al H locs ls vs hr hl hs
  obtain ⟨_, _, rfl, rfl, hs⟩ := hs
  exact lv_if_gt X.1 X.2.1 hd ht (fun h9 => kt ((mx_lt32).mp h9) al H locs ls _ hr hl hs) (fun h9 => kf (fun e => h9 ((mx_lt32).mpr e)) al H locs ls _ hr hl hs)
theorem mx_s_icmp_le (X : mx_X p l s m args meth c R cc nL own A D cy sp F) {x y off : Int} {t : Nat} (hd : decode cc pc = .ok (.if_icmp .le off, 3)) (ht : (pc : Int) + off = (t : Int)) (kt : mx_cmp .le x y → mx_G p l e R s m args below meth c nL A D cy sp al0 Qe t L st h u) (kf : ¬ mx_cmp .le x y → mx_G p l e R s m args below meth c nL A D cy sp al0 Qe (pc + 3) L st h u) : mx_G p l e R s m args below meth c nL A D cy sp al0 Qe pc L (mx_I y :: mx_I x :: st) h u := by
  intro al H locs ls vs hr hl hs
  obtain ⟨_, _, rfl, rfl, ⟨_, _, rfl, rfl, hs⟩⟩ := hs
  exact lv_icmp_le X.1 X.2.1 hd ht (fun h9 => kt ((mx_le32).mp h9) al H locs ls _ hr hl hs) (fun h9 => kf (fun e => h9 ((mx_le32).mpr e)) al H locs ls _ hr hl hs)
theorem mx_s_if_le (X : mx_X p l s m args meth c R cc nL own A D cy sp F) {x off : Int} {t : Nat} (hd : decode cc pc = .ok (.ifCond .le off, 3)) (ht : (pc : Int) + off = (t : Int)) (kt : mx_cmp .le x 0 → mx_G p l e R s m args below meth c nL A D cy sp al0 Qe t L st h u) (kf : ¬ mx_cmp .le x 0 → mx_G p l e R s m args below meth c nL A D cy sp al0 Qe (pc + 3) L st h u) : mx_G p l e R s m args below meth c nL A D cy sp al0 Qe pc L (mx_I x :: st) h u := by
  intro al H locs ls vs hr hl hs
  obtain ⟨_, _, rfl, rfl, hs⟩ := hs
  exact lv_if_le X.1 X.2.1 hd ht (fun h9 => kt ((mx_le32).mp h9) al H locs ls _ hr hl hs) (fun h9 => kf (fun e => h9 ((mx_le32).mpr e)) al H locs ls _ hr hl hs)
theorem mx_s_goto (X : mx_X p l s m args meth c R cc nL own A D cy sp F) {off : Int} {t : Nat} (hd : decode cc pc = .ok (.goto off, 3)) (ht : (pc : Int) + off = (t : Int)) (k : mx_G p l e R s m args below meth c nL A D cy sp al0 Qe t L st h u) : mx_G p l e R s m args below meth c nL A D cy sp al0 Qe pc L st h u := by
  intro al H locs ls vs hr hl hs
  exact lv_goto X.1 X.2.1 hd ht (k al H locs ls _ hr hl hs)
end MXS
