/-! a check of a method's rows against its bytes and the tables, and what it gives -/
def mx_okL (ig : Instr) (ln : Nat) : Bool := match ig with
  | .iconst _ => ln == 1 | .bipush _ => ln == 2 | .sipush _ => ln == 3 | .lconst _ => ln == 1
  | .iload_n _ => ln == 1 | .iload _ => ln == 2 | .lload_n _ => ln == 1 | .lload _ => ln == 2 | .aload_n _ => ln == 1 | .aload _ => ln == 2
  | .istore_n _ => ln == 1 | .istore _ => ln == 2 | .lstore_n _ => ln == 1 | .lstore _ => ln == 2 | .astore_n _ => ln == 1 | .astore _ => ln == 2
  | .iinc _ _ => ln == 3
  | .ifCond _ _ => ln == 3 | .if_icmp _ _ => ln == 3 | .goto _ => ln == 3
  | .getfield _ => ln == 3 | .putfield _ => ln == 3 | .getstatic _ => ln == 3 | .new _ => ln == 3 | .newarray _ => ln == 2
  | .ldc _ => ln == 2 | .ldc_w _ => ln == 3 | .ldc2_w _ => ln == 3
  | .invokespecial _ => ln == 3 | .invokestatic _ => ln == 3 | .invokevirtual _ => ln == 3
  | .tableswitch _ _ _ _ => true | .lookupswitch _ _ => true
  | .ifnull _ => true | .ifnonnull _ => true | .if_acmp _ _ => true | .invokedynamic _ => true | .invokeinterface _ _ => true | .checkcast _ => true | .instanceof _ => true | .anewarray _ => true
  | _ => ln == 1
def mx_inB (ch j : Nat) (w : Cond) : Bool := decide ((mx_tch ch)[j]? = some w) && goodWord w
def mx_okF (own : String) (i ci k t ch j : Nat) : Bool := match vwCl[ci]? with
  | some (_, T, N) => decide (k < N) && mx_inB ch j (.fieldLink own i (T k).1 (T k).2.1 (T k).2.2.1) && decide (mx_tg ci k = t)
  | none => false
def mx_okW (own : String) (ini : Bool) (ci k t : Nat) : Bool := match vwCl[ci]? with
  | some (_, T, _) => (match t with
    | 0 => decide (mx_ty ci k = .int) && !(T k).2.2.2
    | 1 => decide (mx_ty ci k = .long) && !(T k).2.2.2
    | 2 => decide (mx_ty ci k = .boolean) && !(T k).2.2.2
    | 3 => (T k).2.2.2 && ini && decide ((T k).1 = own)
    | _ => false)
  | none => false
/-- the place of an exception's constructor in the class's pool -/
def mx_ic (x : Nat) : Nat := match x with
  | 0 => 104 | 1 => 107 | 2 => 110 | _ => 113
def mx_sn (s n : Nat) : Int := if s = 0 then (n : Int) else -(n : Int)
/-- a call's word -/
def mx_okC (own : String) (i ch j : Nat) (nest : Bool) (y : MethodName) : Bool := mx_inB ch j (.methodLink own i y) || (nest && decide ((mx_tch ch)[j]? = some (.methodLinkNest own i y "NoonWords")))
def mx_okS (own : String) (i k : Nat) : Bool := decide (10 ≤ k) && decide (k < 37) && decide ((mx_so (k - 10)).1 = own) && decide ((mx_so (k - 10)).2.1 = i)
def mx_okI (own : String) (cc : ByteArray) (nL : Nat) (ret : Option FieldType) (ini : Bool) (mT : Nat → Option mx_MT) (pc : Nat) (ig : Instr) (inf : List Nat) : Bool := match ig with
  | .bipush n => decide ((Int8.ofInt n).toInt32 = Int32.ofInt n)
  | .sipush n => decide ((Int16.ofInt n).toInt32 = Int32.ofInt n)
  | .istore_n k => decide ((k : Nat) < nL)
  | .istore k => decide (k < nL)
  | .lstore_n k => decide ((k : Nat) + 1 < nL)
  | .lstore k => decide (k + 1 < nL)
  | .astore_n k => decide ((k : Nat) < nL)
  | .astore k => decide (k < nL)
  | .iinc k _ => decide (k < nL)
  | .ifCond _ off => (match inf with
    | t :: _ => decide ((pc : Int) + off = (t : Int))
    | _ => false)
  | .if_icmp _ off => (match inf with
    | t :: _ => decide ((pc : Int) + off = (t : Int))
    | _ => false)
  | .goto off => (match inf with
    | t :: _ => decide ((pc : Int) + off = (t : Int))
    | _ => false)
  | .tableswitch df lo hi offs => (match inf with
    | t :: ts => decide ((pc : Int) + df = (t : Int)) && decide (((List.range (hi - lo + 1).toNat).all fun i => match offs[i]? with
      | some off => decide ((pc : Int) + off = ((ts.getD i 0 : Nat) : Int))
      | none => false) = true)
    | _ => false)
  | .lookupswitch df ps => (match inf with
    | t :: ts => decide ((pc : Int) + df = (t : Int)) && (ps.toList.zip (ps.toList.drop 1)).all (fun (a, next) => a.1 < next.1) && decide (((List.range ps.toList.length).all fun i => match ps.toList[i]? with
      | some q => decide ((pc : Int) + q.2 = ((ts.getD i 0 : Nat) : Int))
      | none => true) = true)
    | _ => false)
  | .getfield i => (match inf with
    | [] => true
    | 90 :: f :: ch :: j :: _ => (match f with
      | 0 => mx_inB ch j (.fieldLink own i "java/lang/String" "value" "[B")
      | 1 => mx_inB ch j (.fieldLink own i "java/lang/String" "coder" "B")
      | _ => false)
    | ci :: k :: t :: ch :: j :: _ => mx_okF own i ci k t ch j
    | _ => false)
  | .putfield i => (match inf with
    | [] => true
    | ci :: k :: t :: ch :: j :: _ => mx_okF own i ci k t ch j && mx_okW own ini ci k t
    | _ => false)
  | .newarray a => (match inf with
    | t :: ch :: j :: _ => mx_inB ch j (.arrayClass (newarray.typeOf a)) && (match a, t with
      | .int, 0 => true
      | .long, 1 => true
      | .boolean, 2 => true
      | _, _ => false)
    | _ => false)
  | .new i => (match inf with
    | [] => true
    | 0 :: ci :: ns :: c1 :: j1 :: c2 :: j2 :: c3 :: j3 :: _ => (match vwCl[ci]? with
      | some (C, _, N) => decide (ns = N) && mx_inB c1 j1 (.classLink own i C) && mx_inB c2 j2 (.instantiable C N) && mx_inB c3 j3 (.initialized C) && decide (((List.range N).all fun k => decide (mx_ty ci k = .int) || decide (mx_ty ci k = .long) || decide (mx_ty ci k = .boolean) || decide (mx_tg ci k = 3)) = true)
      | none => false)
    | 1 :: x :: c1 :: j1 :: c2 :: j2 :: _ => decide (x < 4) && decide (own = "NoonWords") && mx_inB c1 j1 (.classLink own i (mx_ex x)) && mx_inB c2 j2 (.initialized (mx_ex x)) && decide (decode cc (pc + 3) = .ok (.dup, 1)) && decide (decode cc (pc + 4) = .ok (.invokespecial (mx_ic x), 3)) && decide (decode cc (pc + 7) = .ok (.athrow, 1))
    | _ => false)
  | .ldc i => (match inf with
    | [] => true
    | 1 :: k :: _ => mx_okS own i k
    | 0 :: s :: n :: ch :: j :: _ => mx_inB ch j (.constant own i (Int32.ofInt (mx_sn s n)))
    | _ => false)
  | .ldc_w i => (match inf with
    | [] => true
    | 1 :: k :: _ => mx_okS own i k
    | 0 :: s :: n :: ch :: j :: _ => mx_inB ch j (.constant own i (Int32.ofInt (mx_sn s n)))
    | _ => false)
  | .ldc2_w i => (match inf with
    | [] => true
    | s :: n :: ch :: j :: _ => mx_inB ch j (.constantLong own i (Int64.ofInt (mx_sn s n)))
    | _ => false)
  | .getstatic i => (match inf with
    | [] => true
    | k :: ch :: j :: _ => (match k with
      | 1 => decide ((mx_tch ch)[j]? = some (.fieldLinkNest own i "NoonWords" "LEAST" "[I" "NoonWords"))
      | 2 => decide ((mx_tch ch)[j]? = some (.fieldLinkNest own i "NoonWords" "MOST" "[I" "NoonWords"))
      | 3 => decide ((mx_tch ch)[j]? = some (.fieldLinkNest own i "NoonWords" "UNSAID" "[I" "NoonWords"))
      | 50 => mx_inB ch j (.fieldLink own i "java/lang/String" "COMPACT_STRINGS" "Z")
      | 51 => mx_inB ch j (.fieldLink own i "jdk/internal/util/Preconditions" "SIOOBE_FORMATTER" "Ljava/util/function/BiFunction;")
      | _ => false)
    | _ => false)
  | .invokespecial i => (match inf with
    | [] => true
    | 0 :: m :: n :: ch :: j :: _ => (match mT m with
      | some t => decide (mx_mk t = 2) && decide (mx_mn t = n) && decide (mx_mc t = 0) && decide (mx_ms t = 0) && mx_okC own i ch j true (mx_my t)
      | none => false)
    | 5 :: m :: n :: mc :: ms :: ch :: j :: _ => (match mT m with
      | some t => decide (mx_mk t = 2) && decide (mx_mn t = n) && decide (mx_mc t = mc) && decide (mx_ms t = ms) && mx_okC own i ch j true (mx_my t)
      | none => false)
    | 1 :: c1 :: j1 :: c2 :: j2 :: c3 :: j3 :: _ => mx_inB c1 j1 (.methodLink own i Lib.objectInit) && mx_inB c2 j2 (.instanceMethod Lib.objectInit) && mx_inB c3 j3 (.code Lib.objectInit ⟨#[0xb1]⟩ 1 none)
    | _ => false)
  | .invokestatic i => (match inf with
    | [] => true
    | 8 :: t :: c1 :: j1 :: c2 :: j2 :: c3 :: j3 :: c4 :: j4 :: _ => decide (t < 2) && mx_inB c1 j1 (.methodLink own i arraycopyName) && mx_inB c2 j2 (.native arraycopyName) && mx_inB c3 j3 (.static arraycopyName) && mx_inB c4 j4 (.initialized "java/lang/System")
    | 0 :: m :: n :: ch :: j :: _ => (match mT m with
      | some t => decide (mx_mk t = 0) && decide (mx_mn t = n) && decide (mx_mc t = 0) && decide (mx_ms t = 0) && mx_okC own i ch j (decide (mx_mh t = [])) (mx_my t)
      | none => false)
    | 5 :: m :: n :: mc :: ms :: ch :: j :: _ => (match mT m with
      | some t => decide (mx_mk t = 0) && decide (mx_mn t = n) && decide (mx_mc t = mc) && decide (mx_ms t = ms) && mx_okC own i ch j (decide (mx_mh t = [])) (mx_my t)
      | none => false)
    | _ => false)
  | .invokevirtual i => (match inf with
    | [] => true
    | 7 :: m :: n :: ch :: j :: _ => (match mT m with
      | some t => decide (mx_mk t = 1) && decide (mx_mn t = n) && decide (mx_mc t = 0) && decide (mx_ms t = 0) && decide ((mx_my t).cls = "java/lang/String") && mx_inB ch j (.methodLink own i (mx_my t))
      | none => false)
    | 0 :: m :: n :: ci :: ch :: j :: _ => (match mT m, vwCl[ci]? with
      | some t, some (C, _, _) => decide (mx_mk t = 1) && decide (mx_mn t = n) && decide (mx_mc t = 0) && decide (mx_ms t = 0) && decide ((mx_my t).cls = C) && mx_inB ch j (.methodLink own i (mx_my t))
      | _, _ => false)
    | 5 :: m :: n :: ci :: mc :: ms :: ch :: j :: _ => (match mT m, vwCl[ci]? with
      | some t, some (C, _, _) => decide (mx_mk t = 1) && decide (mx_mn t = n) && decide (mx_mc t = mc) && decide (mx_ms t = ms) && decide ((mx_my t).cls = C) && mx_inB ch j (.methodLink own i (mx_my t))
      | _, _ => false)
    | _ => false)
  | .ireturn => (match inf with
    | 2 :: _ => decide (ret = some .boolean)
    | 3 :: _ => decide (ret = some .char)
    | 4 :: _ => decide (ret = some .byte)
    | _ => decide (ret = some .int))
  | .lreturn => decide (ret = some .long)
  | .return_ => decide (ret = none)
  | _ => true
def mx_okB (own : String) (cc : ByteArray) (nL : Nat) (ret : Option FieldType) (ini : Bool) (mT : Nat → Option mx_MT) (e : mx_E) : Bool :=
  decide (decode cc e.1 = .ok (e.2.1, e.2.2.1)) && mx_okL e.2.1 e.2.2.1 && mx_okI own cc nL ret ini mT e.1 e.2.1 e.2.2.2
theorem mx_inB_of {ch j : Nat} {w : Cond} (h : mx_inB ch j w = true) : w ∈ mx_Ts := by
  unfold mx_inB at h
  simp only [Bool.and_eq_true, decide_eq_true_eq] at h
  exact mx_inTs ch j h.1 h.2
theorem mx_okC_of {own : String} {i ch j : Nat} {b : Bool} {y : MethodName} (h : mx_okC own i ch j b y = true) : Cond.methodLink own i y ∈ mx_Ts ∨ (b = true ∧ ∃ host, Cond.methodLinkNest own i y host ∈ lw_tbl) := by
  unfold mx_okC at h
  simp only [Bool.or_eq_true, Bool.and_eq_true, decide_eq_true_eq] at h
  rcases h with h | ⟨h1, h2⟩
  · exact Or.inl (mx_inB_of h)
  · exact Or.inr ⟨h1, _, mx_tch_in ch (List.mem_of_getElem? h2)⟩
theorem mx_okF_of {own : String} {i ci k t ch j : Nat} (h : mx_okF own i ci k t ch j = true) : ∃ (C : String) (T : u_T) (N : Nat), vwCl[ci]? = some (C, T, N) ∧ k < N ∧ Cond.fieldLink own i (T k).1 (T k).2.1 (T k).2.2.1 ∈ mx_Ts ∧ mx_tg ci k = t := by
  unfold mx_okF at h
  split at h
  · next C T N e =>
    simp only [Bool.and_eq_true, decide_eq_true_eq] at h
    exact ⟨C, T, N, e, h.1.1, mx_inB_of h.1.2, h.2⟩
  · cases h
set_option maxRecDepth 20000 in
theorem mx_thr0 : (vx_at0 "NoonWords" (mx_ic 0) (mx_ex 0) ["java/lang/RuntimeException", "java/lang/Exception"]).all (fun w => mx_ok w && decide (w ∈ lw_tbl)) = true := by decide +kernel
set_option maxRecDepth 20000 in
theorem mx_thr1 : (vx_at0 "NoonWords" (mx_ic 1) (mx_ex 1) ["java/lang/RuntimeException", "java/lang/Exception"]).all (fun w => mx_ok w && decide (w ∈ lw_tbl)) = true := by decide +kernel
set_option maxRecDepth 20000 in
theorem mx_thr2 : (vx_at0 "NoonWords" (mx_ic 2) (mx_ex 2) ["java/lang/RuntimeException", "java/lang/Exception"]).all (fun w => mx_ok w && decide (w ∈ lw_tbl)) = true := by decide +kernel
set_option maxRecDepth 20000 in
theorem mx_thr3 : (vx_at0 "NoonWords" (mx_ic 3) (mx_ex 3) ["java/lang/RuntimeException", "java/lang/Exception"]).all (fun w => mx_ok w && decide (w ∈ lw_tbl)) = true := by decide +kernel
theorem mx_thr_of {L : List Cond} (h : L.all (fun w => mx_ok w && decide (w ∈ lw_tbl)) = true) : ∀ w ∈ L, w ∈ lw_tbl ∧ mx_ok w = true := by
  intro w hw
  have h1 := List.all_eq_true.mp h w hw
  simp only [Bool.and_eq_true, decide_eq_true_eq] at h1
  exact ⟨h1.2, h1.1⟩
theorem mx_thr {x : Nat} (hx : x < 4) : ∀ w ∈ vx_at0 "NoonWords" (mx_ic x) (mx_ex x) ["java/lang/RuntimeException", "java/lang/Exception"], w ∈ lw_tbl ∧ mx_ok w = true := by
  match x, hx with
  | 0, _ => exact mx_thr_of mx_thr0
  | 1, _ => exact mx_thr_of mx_thr1
  | 2, _ => exact mx_thr_of mx_thr2
  | 3, _ => exact mx_thr_of mx_thr3
  | x + 4, h => exact absurd h (by omega)
theorem mx_fit {x : Nat} (hx : x < 4) : Bundle.fit (mx_ex x) = true ∧ Bundle.fit "java/lang/RuntimeException" = true ∧ Bundle.fit "java/lang/Exception" = true := by
  match x, hx with
  | 0, _ => decide +kernel
  | 1, _ => decide +kernel
  | 2, _ => decide +kernel
  | 3, _ => decide +kernel
  | x + 4, h => exact absurd h (by omega)
