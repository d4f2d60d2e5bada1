/-! the law out of the small machine -/
def mx_insj : List (Nat × Nat) := [(1, 89), (2, 143), (2, 199), (2, 27), (3, 26), (1, 39), (1, 132), (1, 211), (1, 181), (3, 86), (2, 80), (1, 31), (8, 150)]
def mx_inst (k : Nat) : Bool := match vwCl[k]? with
  | some (C, _, N) => mx_wl1 (mx_insj.getD k (0, 0)).1 (mx_insj.getD k (0, 0)).2 (.instantiable C N)
  | none => true
set_option maxRecDepth 100000 in
theorem mx_instA : (List.range 13).all mx_inst = true := by decide +kernel
def mx_arrw : Bool := mx_wl1 1 87 (.arrayClass .int) && (mx_wl1 1 179 (.arrayClass .long) && mx_wl1 2 141 (.arrayClass .boolean))
set_option maxRecDepth 100000 in
theorem mx_arrwT : mx_arrw = true := by decide +kernel
theorem mx_arr0 {args : Array Value} {s : State} {ty : FieldType} (hr : ∀ c, va_RA s c ty ↔ s.vm.findClass ("[" ++ ty.toString) = some c) (h : (Cond.arrayClass ty).before args s = true) : ∃ cA : ClassId, ArrOfT s cA ty ∧ va_RA s cA ty := by
  obtain ⟨cA, kA, comp, h1, h2, h3⟩ := Cond.arrayClass_spec h
  exact ⟨cA, fun N z => ⟨(fun k h => by cases h), kA, h2, comp, h3⟩, (hr cA).mpr h1⟩
theorem mx_K0 {args : Array Value} {s : State} (hts : ∀ w ∈ lw_tbl, w.before args s = true) : ∃ (D : va_G) (cy : Nat → ClassId), va_K D vwCl [(cy 0, .int), (cy 1, .long), (cy 2, .boolean)] s := by
  have hTs : ∀ w ∈ mx_Ts, w.before args s = true := fun w hw => hts w (List.mem_filter.mp hw).1
  have h0 : ∀ k : Nat, ∃ q : ClassId × (Nat → Nat), ∀ c : vw_C, vwCl[k]? = some c → u_Kn s c.1 c.2.1 c.2.2 q.1 q.2 := by
    intro k
    match hk : vwCl[k]? with
    | none => exact ⟨(0, fun _ => 0), fun c h => by cases h⟩
    | some (C, T, N) =>
      have hk13 : k < 13 := (List.getElem?_eq_some_iff.mp hk).1
      have hi := List.all_eq_true.mp mx_instA k (List.mem_range.mpr hk13)
      unfold mx_inst at hi
      rw [hk] at hi
      obtain ⟨cC, iS, h⟩ := u_known (n := N) hTs (mx_cls hk).2.1 (hts _ (mx_wl1_of hi))
      exact ⟨(cC, iS), fun c hc => by cases hc; exact h⟩
  obtain ⟨q, hq⟩ := Classical.axiomOfChoice h0
  have hw := mx_arrwT
  unfold mx_arrw at hw
  simp only [Bool.and_eq_true] at hw
  obtain ⟨c0, a0, b0⟩ := mx_arr0 (ty := .int) (fun _ => Iff.rfl) (hts _ (mx_wl1_of hw.1))
  obtain ⟨c1, a1, b1⟩ := mx_arr0 (ty := .long) (fun _ => Iff.rfl) (hts _ (mx_wl1_of hw.2.1))
  obtain ⟨c2, a2, b2⟩ := mx_arr0 (ty := .boolean) (fun _ => Iff.rfl) (hts _ (mx_wl1_of hw.2.2))
  refine ⟨(fun k => (q k).1, fun k => (q k).2), fun k => if k = 0 then c0 else if k = 1 then c1 else c2, fun k c hc => hq k c hc, fun k z hz => ?_⟩
  match k, hz with
  | 0, hz => cases hz; exact ⟨a0, b0⟩
  | 1, hz => cases hz; exact ⟨a1, b1⟩
  | 2, hz => cases hz; exact ⟨a2, b2⟩
  | k + 3, hz => cases hz
theorem mx_nwT {w : Cond} (h : mx_nwK w = true) : w.onTables = true := by
  unfold mx_nwK at h
  split at h <;> first | rfl | cases h
theorem mx_wf_nil : mx_wf [] := fun q ci rf k r h => by simp at h
theorem mx_wl_nil : mx_wl [] := fun q ci rf h => by simp at h
theorem mx_lawQ_i {o : mx_O} {h : mx_H} (q : mx_lawQ o h) : ∃ n : Int, o = .inl (some (mx_I n)) ∧ w32 n = 1 := by
  obtain ⟨_, q2⟩ := q
  match o, q2 with
  | .inl r, q2 =>
    obtain ⟨n, e1, e2⟩ := q2
    exact ⟨n, by rw [e1]; rfl, e2⟩
  | .inr x, q2 => exact q2.elim
theorem mx_start (hlaw : mx_law) {p : Program} {e : Env} {s : State} {m : MethodId} {below : List Frame} {meth : Method} {c : Code} (l : Launch) (hl : l.stackTraces = false) {b L : Nat} {xs : Nat → Int32} (hL : L ≤ 3584) (C0 : lw_At p s m meth c b L xs) : W p l e room_1 s m #[Value.ref b] below meth c s.heap [] 0 0 (lw_Z below #[Value.ref b] s) (entryFrame m ([Value.ref b] : List Value).toArray 8) := by
  obtain ⟨hx, hb, hr, hml, hown, hts, hX, hbl, hlocks, hgv⟩ := C0
  have hW := hlaw L xs hL
  obtain ⟨D, cy, hK⟩ := mx_K0 hts
  obtain ⟨sp, hsp, henv⟩ := mx_env0 (A := fun q => s.heap.size ≤ q) hL hts hgv (fun a ha => Nat.not_le.mpr ha) hbl hX
  have hXX : mx_X p l s m #[Value.ref b] meth c room_1 code 8 R_law (fun q => s.heap.size ≤ q) D cy sp (mx_F1 L xs, [], (601024, 7293034)) :=
    ⟨hx, hb, hml, hown, fun w hw => hts w (List.mem_filter.mp hw).1, hK, fun q hq => hq, Nat.le_refl 601024, Nat.le_refl 7293034, henv, hl, by decide, by decide, hlocks, fun w hw hk => va_Nw.of (mx_nwT hk) (hts w hw)⟩
  have hY : mx_Y p l e room_1 s m #[Value.ref b] below meth c code 8 R_law (fun q => s.heap.size ≤ q) D cy sp [] (lw_Z below #[Value.ref b] s) (mx_F1 L xs, [], (601024, 7293034)) (mx_CA mx_mT mx_mB (mx_F1 L xs) 1300) mx_mT (some .boolean) (mx_F1 L xs) 1300 mx_lawQ := by
    refine ⟨fun k t as h Q hk hC => ⟨(mx_tokT k t hk).1, mx_soundA mx_tokT hl 1300 k t as h Q hk hC⟩, fun _ _ z => z, ⟨by decide, by decide⟩, ?_, ?_, ?_, ?_, ?_, ?_, ?_, ?_⟩
    · intro pc L n h u hret
      cases hret
    · intro pc L n h u _ _ hu hQ hd al H locs ls vs hrep hlr hrs
      obtain ⟨_, _, rfl, rfl, rfl⟩ := hrs
      obtain ⟨n', e1, e2⟩ := mx_lawQ_i hQ
      cases e1
      have e3 : Int32.ofInt n = 1 := Int32.toInt_inj.mp e2
      rw [e3]
      refine va_forget (fun q hq => hrep.2.2.2.2.2.2.2 q hq) ?_
      refine W.widen hu.1 hu.2 ?_
      exact lw_ret hx hb hr hlocks hd
    · intro pc L n h u hret
      cases hret
    · intro pc L n h u hret
      cases hret
    · intro pc L n h u hret
      cases hret
    · intro pc L h u hret
      cases hret
    · intro pc L x h u _ _ hQ
      obtain ⟨n', e1, -⟩ := mx_lawQ_i (hQ rfl)
      cases e1
    · intro pc L st x ik h u ho
      exact absurd ho (by decide)
  have hk := kL_law
  simp only [Bool.and_eq_true, List.all_eq_true] at hk
  rw [lg_entry_eq]
  have hrs : mx_rs [] sp [mx_S 0] [Value.ref b] := ⟨_, _, rfl, by rw [← hsp]; rfl, rfl⟩
  exact mx_sim_A hXX hY (ini := false) (fun z => by cases z) hk.1 hk.2 0 _ _ _ _ ⟨Nat.zero_le _, Nat.zero_le _⟩ hW [] s.heap [] _ [] ⟨⟨rfl, [], rfl⟩, mx_wf_nil, mx_wl_nil, fun k q h => by simp [mx_wd] at h, ⟨fun i j p q h => by simp [mx_wd] at h, fun k q h => by simp [mx_wd] at h⟩, va_S.rf⟩ (mx_loc_lr hrs (by decide)) rfl
