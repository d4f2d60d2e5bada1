/-! the law's start: the things outside the cells, the classes -/
def mx_lea : List Int := [0, 1, 0, -1000, -1000, -1000, 0, 0, 0]
def mx_mos : List Int := [100000, 500, 1000000000, 1000, 1000, 1000, 100, 1, 1]
def mx_uns : List Int := [0, 60, 1000000, 0, 0, 0, 0, 0, 0]
def mx_F1 (L : Nat) (xs : Nat → Int32) (k : Nat) : Option (Nat × (Nat → Int)) := match k with
  | 0 => some (L, fun j => (xs j).toInt)
  | 1 => some (9, fun j => mx_lea.getD j 0)
  | 2 => some (9, fun j => mx_mos.getD j 0)
  | 3 => some (9, fun j => mx_uns.getD j 0)
  | _ => none
theorem mx_Xof {args : Array Value} {s : State} {tm : Term} {N : Nat} {f : Nat → Int32} (hN : N < 2 ^ 31) (harr : (Cond.arrayOf tm .int).before args s = true) (hlen : (Term.length tm).eval args s none [] s = some (.int (Int32.ofNat N))) (hel : ∀ j : Nat, j < N → (Term.elem tm (.int (Int32.ofNat j))).eval args s none [] s = some (.int (f j))) : ∃ t : Nat, tm.eval args s none [] s = some (.ref t) ∧ t < s.heap.size ∧ va_X t N f s s.heap := by
  obtain ⟨t, ht, cell, hcell, hof, hkn, hle, hsz, hel', -⟩ := va_Tof (A := fun _ => False) (f := fun j => .int (f j)) hN harr hlen hel (fun _ _ h => h)
  obtain ⟨t', cell', ht', hat, hv⟩ := Term.length_spec hlen
  cases ht.symm.trans ht'
  obtain ⟨hcell', -, -, -⟩ := State.arrayAt?_spec hat
  cases hcell.symm.trans hcell'
  have hlt : cell.slots.size < 2 ^ 31 := by
    apply Classical.byContradiction
    intro hn
    simp [Term.eval, ht, hat] at hlen
    omega
  refine ⟨t, ht, (Array.getElem?_eq_some_iff.mp hcell).1, cell, hcell, hof, hkn, ?_, hel'⟩
  have e : Int32.ofNat cell.slots.size = Int32.ofNat N := hsz
  have e2 := congrArg Int32.toInt e
  rw [Int32.toInt_ofNat_of_lt hlt, Int32.toInt_ofNat_of_lt hN] at e2
  omega
abbrev mx_gn : Cond := Jvm.Cond.and given_1 narrow_1
def mx_fl (j : Nat) (w : Cond) : Bool := decide ((flatC mx_gn)[j]? = some w)
theorem mx_fl_of {j : Nat} {w : Cond} (h : mx_fl j w = true) : w ∈ flatC mx_gn := List.mem_of_getElem? (of_decide_eq_true h)
def mx_wl1 (c j : Nat) (w : Cond) : Bool := decide ((mx_tch c)[j]? = some w)
theorem mx_wl1_of {c j : Nat} {w : Cond} (h : mx_wl1 c j w = true) : w ∈ lw_tbl := mx_tch_in c (List.mem_of_getElem? (of_decide_eq_true h))
def mx_st (n : String) : Term := .static "NoonWords" n "[I"
def mx_stok (e c j : Nat) (n : String) (vs : List Int) : Bool := mx_fl e (.arrayOf (mx_st n) .int) && (mx_fl (e + 1) (.eq (.length (mx_st n)) (.int (Int32.ofNat 9))) && ((List.range 9).all fun j => mx_fl (e + 2 + j) (.eq (.elem (mx_st n) (.int (Int32.ofNat j))) (.int (Int32.ofInt (vs.getD j 0)))))) && (mx_wl1 c j (.laysStatic "NoonWords" n "[I") && mx_wl1 1 1 (.initialized "NoonWords"))
set_option maxRecDepth 100000 in
theorem mx_stok1 : mx_stok 12 5 228 "LEAST" mx_lea = true := by decide +kernel
set_option maxRecDepth 100000 in
theorem mx_stok2 : mx_stok 24 5 230 "MOST" mx_mos = true := by decide +kernel
set_option maxRecDepth 100000 in
theorem mx_stok3 : mx_stok 36 5 236 "UNSAID" mx_uns = true := by decide +kernel
theorem mx_static {args : Array Value} {s : State} {e c j : Nat} {n : String} {vs : List Int} {A : Nat → Prop} (h : mx_stok e c j n vs = true) (hts : ∀ w ∈ lw_tbl, w.before args s = true) (hg : mx_gn.before args s = true) (hA : ∀ a : Nat, a < s.heap.size → ¬ A a) : ∃ t : Nat, t < s.heap.size ∧ va_X t 9 (fun j => Int32.ofInt (vs.getD j 0)) s s.heap ∧ va_Z "NoonWords" n "[I" (.ref t) A s s.heap := by
  unfold mx_stok at h
  simp only [Bool.and_eq_true, List.all_eq_true, List.mem_range] at h
  obtain ⟨⟨h1, h2, h3⟩, h4, h5⟩ := h
  have h1 := mx_fl_of h1
  have h2 := mx_fl_of h2
  have h3 := fun j hj => mx_fl_of (h3 j hj)
  have h4 := mx_wl1_of h4
  have h5 := mx_wl1_of h5
  have hf := flat_of_before _ hg
  obtain ⟨t, e1, e2, e3⟩ := mx_Xof (f := fun j => Int32.ofInt (vs.getD j 0)) (by decide) (hf _ h1) (va_eqt (hf _ h2)) (fun j hj => va_eqt (hf _ (h3 j hj)))
  exact ⟨t, e2, e3, va_Zof (hts _ h4) (hts _ h5) e1 hA⟩
/-- the texts -/
def mx_sm (k : Nat) : Term := .string (mx_so k).1 (mx_so k).2.1
def mx_txb : List Nat := [111, 235, 253, 260, 268, 277, 285, 294, 302, 309, 317, 324, 332, 339, 349, 358, 363, 371, 378, 389, 396, 404, 412, 418, 428, 435, 442]
def mx_txr : List (Nat × Nat) := [(4, 204), (5, 13), (10, 156), (10, 163), (10, 164), (10, 165), (10, 166), (10, 167), (10, 168), (10, 169), (10, 194), (10, 195), (10, 196), (10, 197), (10, 198), (10, 215), (10, 216), (10, 217), (10, 218), (10, 219), (10, 220), (10, 221), (10, 222), (10, 231), (11, 4), (11, 5), (11, 6)]
def mx_txok (k : Nat) : Bool := mx_fl (mx_txb.getD k 0) (.exactly (mx_sm k) "java/lang/String") && (mx_fl (mx_txb.getD k 0 + 1) (.eq (.field (mx_sm k) "java/lang/String" "coder" "B") (.int 0)) && (mx_fl (mx_txb.getD k 0 + 2) (.arrayOf (.field (mx_sm k) "java/lang/String" "value" "[B") .byte) && (mx_fl (mx_txb.getD k 0 + 3) (.eq (.length (.field (mx_sm k) "java/lang/String" "value" "[B")) (.int (Int32.ofNat (mx_tx.getD k []).length))) &&
  (((List.range (mx_tx.getD k []).length).all fun j => mx_fl (mx_txb.getD k 0 + 4 + j) (.eq (.elem (.field (mx_sm k) "java/lang/String" "value" "[B") (.int (Int32.ofNat j))) (.int (Int32.ofInt ((mx_tx.getD k []).getD j 0))))) && (mx_wl1 (mx_txr.getD k (0, 0)).1 (mx_txr.getD k (0, 0)).2 (.stringRef (mx_so k).1 (mx_so k).2.1 (mx_so k).2.2) && decide ((mx_tx.getD k []).length < 1000))))))
set_option maxRecDepth 100000 in
theorem mx_txo0 : mx_txok 0 = true := by decide +kernel
set_option maxRecDepth 100000 in
theorem mx_txo1 : mx_txok 1 = true := by decide +kernel
set_option maxRecDepth 100000 in
theorem mx_txo2 : mx_txok 2 = true := by decide +kernel
set_option maxRecDepth 100000 in
theorem mx_txo3 : mx_txok 3 = true := by decide +kernel
set_option maxRecDepth 100000 in
theorem mx_txo4 : mx_txok 4 = true := by decide +kernel
set_option maxRecDepth 100000 in
theorem mx_txo5 : mx_txok 5 = true := by decide +kernel
set_option maxRecDepth 100000 in
theorem mx_txo6 : mx_txok 6 = true := by decide +kernel
set_option maxRecDepth 100000 in
theorem mx_txo7 : mx_txok 7 = true := by decide +kernel
set_option maxRecDepth 100000 in
theorem mx_txo8 : mx_txok 8 = true := by decide +kernel
set_option maxRecDepth 100000 in
theorem mx_txo9 : mx_txok 9 = true := by decide +kernel
set_option maxRecDepth 100000 in
theorem mx_txo10 : mx_txok 10 = true := by decide +kernel
set_option maxRecDepth 100000 in
theorem mx_txo11 : mx_txok 11 = true := by decide +kernel
set_option maxRecDepth 100000 in
theorem mx_txo12 : mx_txok 12 = true := by decide +kernel
set_option maxRecDepth 100000 in
theorem mx_txo13 : mx_txok 13 = true := by decide +kernel
set_option maxRecDepth 100000 in
theorem mx_txo14 : mx_txok 14 = true := by decide +kernel
set_option maxRecDepth 100000 in
theorem mx_txo15 : mx_txok 15 = true := by decide +kernel
set_option maxRecDepth 100000 in
theorem mx_txo16 : mx_txok 16 = true := by decide +kernel
set_option maxRecDepth 100000 in
theorem mx_txo17 : mx_txok 17 = true := by decide +kernel
set_option maxRecDepth 100000 in
theorem mx_txo18 : mx_txok 18 = true := by decide +kernel
set_option maxRecDepth 100000 in
theorem mx_txo19 : mx_txok 19 = true := by decide +kernel
set_option maxRecDepth 100000 in
theorem mx_txo20 : mx_txok 20 = true := by decide +kernel
set_option maxRecDepth 100000 in
theorem mx_txo21 : mx_txok 21 = true := by decide +kernel
set_option maxRecDepth 100000 in
theorem mx_txo22 : mx_txok 22 = true := by decide +kernel
set_option maxRecDepth 100000 in
theorem mx_txo23 : mx_txok 23 = true := by decide +kernel
set_option maxRecDepth 100000 in
theorem mx_txo24 : mx_txok 24 = true := by decide +kernel
set_option maxRecDepth 100000 in
theorem mx_txo25 : mx_txok 25 = true := by decide +kernel
set_option maxRecDepth 100000 in
theorem mx_txo26 : mx_txok 26 = true := by decide +kernel
theorem mx_txall {k : Nat} (hk : k < 27) : mx_txok k = true := by
  match k, hk with
  | 0, _ => exact mx_txo0
  | 1, _ => exact mx_txo1
  | 2, _ => exact mx_txo2
  | 3, _ => exact mx_txo3
  | 4, _ => exact mx_txo4
  | 5, _ => exact mx_txo5
  | 6, _ => exact mx_txo6
  | 7, _ => exact mx_txo7
  | 8, _ => exact mx_txo8
  | 9, _ => exact mx_txo9
  | 10, _ => exact mx_txo10
  | 11, _ => exact mx_txo11
  | 12, _ => exact mx_txo12
  | 13, _ => exact mx_txo13
  | 14, _ => exact mx_txo14
  | 15, _ => exact mx_txo15
  | 16, _ => exact mx_txo16
  | 17, _ => exact mx_txo17
  | 18, _ => exact mx_txo18
  | 19, _ => exact mx_txo19
  | 20, _ => exact mx_txo20
  | 21, _ => exact mx_txo21
  | 22, _ => exact mx_txo22
  | 23, _ => exact mx_txo23
  | 24, _ => exact mx_txo24
  | 25, _ => exact mx_txo25
  | 26, _ => exact mx_txo26
  | k + 27, h => exact absurd h (by omega)
theorem mx_text {args : Array Value} {s : State} {A : Nat → Prop} {k : Nat} (hk : k < 27) (hts : ∀ w ∈ lw_tbl, w.before args s = true) (hg : mx_gn.before args s = true) (hA : ∀ a : Nat, a < s.heap.size → ¬ A a) : ∃ q : Nat × Nat, vk_R (mx_so k).1 (mx_so k).2.1 (mx_so k).2.2 q.1 s ∧ va_O "java/lang/String" q.1 A s s.heap ∧ va_OF "java/lang/String" "coder" "B" (.int 0) q.1 A s s.heap ∧ va_OF "java/lang/String" "value" "[B" (.ref q.2) q.1 A s s.heap ∧ va_T .byte q.2 (mx_tx.getD k []).length (fun j => .int (Int32.ofInt ((mx_tx.getD k []).getD j 0))) A s s.heap := by
  have h := mx_txall hk
  unfold mx_txok at h
  simp only [Bool.and_eq_true, decide_eq_true_eq, List.all_eq_true, List.mem_range] at h
  obtain ⟨h1, h2, h3, h4, h5, h6, h7⟩ := h
  have h1 := mx_fl_of h1
  have h2 := mx_fl_of h2
  have h3 := mx_fl_of h3
  have h4 := mx_fl_of h4
  have h5 := fun j hj => mx_fl_of (h5 j hj)
  have h6 := mx_wl1_of h6
  have hf := flat_of_before _ hg
  obtain ⟨a, c, cA, kA, q1, q2, q3, q4, q5, q6, -⟩ := Cond.exactly_spec (args := args) (first := s) (o := none) (s := s) (idx := []) (t := mx_sm k) (cls := "java/lang/String") (hf _ h1)
  obtain ⟨t, ht, hT⟩ := va_Tof (f := fun j => .int (Int32.ofInt ((mx_tx.getD k []).getD j 0))) (A := A) (by omega) (hf _ h3) (va_eqt (hf _ h4)) (fun j hj => va_eqt (hf _ (h5 j hj))) hA
  exact ⟨(a, t), vk_R.of (A := args) (hts _ h6) q1, ⟨cA, q3, q5, by rw [q6]; exact q2, hA a (Array.getElem?_eq_some_iff.mp q3).1⟩, vk_OFof q1 (va_eqt (hf _ h2)) hA, vk_OFof q1 ht hA, hT⟩
/-- no exception of the four is another -/
def mx_ncj : List Nat := [0, 61, 77, 110, 92, 0, 76, 108, 93, 60, 0, 109, 94, 62, 78, 0]
def mx_ncok (x y : Nat) : Bool := decide (x = y) || mx_fl (mx_ncj.getD (4 * x + y) 0) (.not (.castable (mx_ex x) (mx_ex y)))
set_option maxRecDepth 100000 in
theorem mx_ncall : ((List.range 4).all fun x => (List.range 4).all fun y => mx_ncok x y) = true := by decide +kernel
theorem mx_nc {args : Array Value} {s : State} (hg : mx_gn.before args s = true) {x y : Nat} (hx : x < 4) (hy : y < 4) (hxy : x ≠ y) : va_Nc (mx_ex x) (mx_ex y) s := by
  have h := List.all_eq_true.mp (List.all_eq_true.mp mx_ncall x (List.mem_range.mpr hx)) y (List.mem_range.mpr hy)
  unfold mx_ncok at h
  simp only [Bool.or_eq_true, decide_eq_true_eq] at h
  exact va_Nc.of (args := args) (flat_of_before _ hg _ (mx_fl_of (h.resolve_left hxy)))
def mx_w0ok : Bool := mx_wl1 3 218 (.laysStatic Bundle.tN "UNASSIGNED_STACK" Bundle.steD) && (mx_wl1 3 220 (.laysStatic Bundle.tN "SUPPRESSED_SENTINEL" Bundle.listD) && (mx_wl1 1 15 (.initialized Bundle.tN) && (mx_fl 4 (.isRef (.static Bundle.tN "UNASSIGNED_STACK" Bundle.steD)) && (mx_fl 5 (.isRef (.static Bundle.tN "SUPPRESSED_SENTINEL" Bundle.listD)) &&
  (mx_wl1 4 214 (.laysStatic "java/lang/String" "COMPACT_STRINGS" "Z") && (mx_wl1 1 23 (.initialized "java/lang/String") && (mx_fl 6 (.eq (.static "java/lang/String" "COMPACT_STRINGS" "Z") (.int 1)) && (mx_wl1 4 230 (.laysStatic "jdk/internal/util/Preconditions" "SIOOBE_FORMATTER" "Ljava/util/function/BiFunction;") && (mx_wl1 1 25 (.initialized "jdk/internal/util/Preconditions") && mx_fl 7 (.isRef (.static "jdk/internal/util/Preconditions" "SIOOBE_FORMATTER" "Ljava/util/function/BiFunction;")))))))))))
set_option maxRecDepth 100000 in
theorem mx_w0okT : mx_w0ok = true := by decide +kernel
theorem mx_env0 {args : Array Value} {s : State} {A : Nat → Prop} {b L : Nat} {xs : Nat → Int32} (hL : L ≤ 3584) (hts : ∀ w ∈ lw_tbl, w.before args s = true) (hg : mx_gn.before args s = true) (hA : ∀ a : Nat, a < s.heap.size → ¬ A a) (hb : b < s.heap.size) (hX : va_X b L xs s s.heap) : ∃ sp : Nat → Nat, sp 0 = b ∧ mx_env sp (mx_F1 L xs) A s := by
  obtain ⟨t1, a1, b1, c1⟩ := mx_static mx_stok1 hts hg hA
  obtain ⟨t2, a2, b2, c2⟩ := mx_static mx_stok2 hts hg hA
  obtain ⟨t3, a3, b3, c3⟩ := mx_static mx_stok3 hts hg hA
  have h0 : ∀ k : Nat, ∃ q : Nat × Nat, k < 27 → vk_R (mx_so k).1 (mx_so k).2.1 (mx_so k).2.2 q.1 s ∧ va_O "java/lang/String" q.1 A s s.heap ∧ va_OF "java/lang/String" "coder" "B" (.int 0) q.1 A s s.heap ∧ va_OF "java/lang/String" "value" "[B" (.ref q.2) q.1 A s s.heap ∧ va_T .byte q.2 (mx_tx.getD k []).length (fun j => .int (Int32.ofInt ((mx_tx.getD k []).getD j 0))) A s s.heap := by
    intro k
    by_cases hk : k < 27
    · obtain ⟨q, hq⟩ := mx_text (A := A) hk hts hg hA
      exact ⟨q, fun _ => hq⟩
    · exact ⟨(0, 0), fun h => absurd h hk⟩
  obtain ⟨ad, had⟩ := Classical.axiomOfChoice h0
  have hw := mx_w0okT
  unfold mx_w0ok at hw
  simp only [Bool.and_eq_true] at hw
  obtain ⟨w1, w2, w3, w4, w5, w6, w7, w8, w9, w10, w11⟩ := hw
  have w1 := mx_wl1_of w1
  have w2 := mx_wl1_of w2
  have w3 := mx_wl1_of w3
  have w4 := mx_fl_of w4
  have w5 := mx_fl_of w5
  have w6 := mx_wl1_of w6
  have w7 := mx_wl1_of w7
  have w8 := mx_fl_of w8
  have w9 := mx_wl1_of w9
  have w10 := mx_wl1_of w10
  have w11 := mx_fl_of w11
  have hf := flat_of_before _ hg
  have hq : ∃ t4 : Nat, va_Z "jdk/internal/util/Preconditions" "SIOOBE_FORMATTER" "Ljava/util/function/BiFunction;" .null A s s.heap ∨ va_Z "jdk/internal/util/Preconditions" "SIOOBE_FORMATTER" "Ljava/util/function/BiFunction;" (.ref t4) A s s.heap := by
    rcases va_Zqof (hts _ w9) (hts _ w10) (hf _ w11) hA with h | ⟨t, h⟩
    · exact ⟨0, Or.inl h⟩
    · exact ⟨t, Or.inr h⟩
  obtain ⟨t4, hq⟩ := hq
  refine ⟨fun k => if k = 0 then b else if k = 1 then t1 else if k = 2 then t2 else if k = 3 then t3 else if k = 200 then t4 else if k < 100 then (ad (k - 10)).1 else (ad (k - 100)).2, rfl, ?_, c1, c2, c3, vx_Zqof (hts _ w1) (hts _ w3) (hf _ w4) hA, vx_Zqof (hts _ w2) (hts _ w3) (hf _ w5) hA, fun x y hx hy hxy => mx_nc hg hx hy hxy, fun k hk => ?_, va_Zof (hts _ w6) (hts _ w7) (va_eqt (hf _ w8)) hA, hq⟩
  · intro k n f hk
    unfold mx_F1 at hk
    split at hk
    · cases hk
      refine ⟨hb, hA _ hb, by omega, ?_⟩
      simp only [Int32.ofInt_toInt]
      exact hX
    · cases hk
      exact ⟨a1, hA _ a1, by decide, b1⟩
    · cases hk
      exact ⟨a2, hA _ a2, by decide, b2⟩
    · cases hk
      exact ⟨a3, hA _ a3, by decide, b3⟩
    · cases hk
  · have h := had k hk
    have e1 : (10 + k = 0) = False := by simp
    show vk_R _ _ _ (if 10 + k = 0 then b else if 10 + k = 1 then t1 else if 10 + k = 2 then t2 else if 10 + k = 3 then t3 else if 10 + k = 200 then t4 else if 10 + k < 100 then (ad (10 + k - 10)).1 else (ad (10 + k - 100)).2) s ∧ _
    have f1 : (if 10 + k = 0 then b else if 10 + k = 1 then t1 else if 10 + k = 2 then t2 else if 10 + k = 3 then t3 else if 10 + k = 200 then t4 else if 10 + k < 100 then (ad (10 + k - 10)).1 else (ad (10 + k - 100)).2) = (ad k).1 := by
      rw [if_neg (by omega), if_neg (by omega), if_neg (by omega), if_neg (by omega), if_neg (by omega), if_pos (by omega), show 10 + k - 10 = k by omega]
    have f2 : (if 100 + k = 0 then b else if 100 + k = 1 then t1 else if 100 + k = 2 then t2 else if 100 + k = 3 then t3 else if 100 + k = 200 then t4 else if 100 + k < 100 then (ad (100 + k - 10)).1 else (ad (100 + k - 100)).2) = (ad k).2 := by
      rw [if_neg (by omega), if_neg (by omega), if_neg (by omega), if_neg (by omega), if_neg (by omega), if_neg (by omega), show 100 + k - 100 = k by omega]
    rw [f1]
    dsimp only
    rw [f1, f2]
    exact h
