/-! a machine over a heap whose shape stays: only the numbers in it change. Its continuations take plain numbers. -/
abbrev mz_S : Type := Nat → Nat → Int
abbrev mz_J : Type := Nat → mx_L → List mx_v → mz_S → Nat × Nat → Prop
abbrev mz_K : Type := Int → mz_S → Prop
abbrev mz_X : Type := Nat → mz_S → Prop
abbrev mz_C : Type := Nat → List mx_v → mz_S → mz_K → mz_X → Prop
/-- a call's answer on the stack: 0 none, 1 an int, 2 a long -/
def mz_tg (k : Nat) (n : Int) (st : List mx_v) : List mx_v := match k with
  | 0 => st
  | 1 => mx_I n :: st
  | _ => mx_J n :: st
def mz_rv (k : Nat) (n : Int) : Option mx_v := match k with
  | 0 => none
  | 1 => some (mx_I n)
  | _ => some (mx_J n)
def mz_hx (F : mx_F) (pc : Nat) (L : mx_L) (u : Nat × Nat) (J : mz_J) (X : mz_X) (x : Nat) (g : mz_S) : Prop := match mx_hnd F.2.1 pc x with
  | some (i, t) => J t ((mx_clr L i).set i none) [] g u
  | none => X x g
def mz_go (F : mx_F) (rk : Nat → Nat) (C : mz_C) (pc : Nat) (L : mx_L) (K : mx_L → List mx_v → mz_S → Nat × Nat → Prop) (J : mz_J) (X : mz_X) (m : Nat) (as rest : List mx_v) (g : mz_S) (u' : Nat × Nat) : Prop := match Nat.ble (mx_wt rest) 8 with
  | true => C m as g (fun n g => K L (mz_tg (rk m) n rest) g u') (mz_hx F pc L u' J X)
  | false => False
def mz_step (F : mx_F) (sh : List mx_d) (rk : Nat → Nat) (rt : Nat) (C : mz_C) (e : mx_E) (L : mx_L) (st : List mx_v) (g : mz_S) (u : Nat × Nat) (K : mx_L → List mx_v → mz_S → Nat × Nat → Prop) (J : mz_J) (Q : mz_K) (X : mz_X) : Prop :=
  match e.2.1 with
  | .iconst n => K L (mx_I n :: st) g u
  | .bipush n => K L (mx_I n :: st) g u
  | .sipush n => K L (mx_I n :: st) g u
  | .lconst n => K L (mx_J ((n : Nat) : Int) :: st) g u
  | .iload_n k => match L.getD (k : Nat) none with
    | some (.inl n) => K L (mx_I n :: st) g u
    | _ => False
  | .iload k => match L.getD k none with
    | some (.inl n) => K L (mx_I n :: st) g u
    | _ => False
  | .lload_n k => match L.getD (k : Nat) none with
    | some (.inr (.inl n)) => K L (mx_J n :: st) g u
    | _ => False
  | .lload k => match L.getD k none with
    | some (.inr (.inl n)) => K L (mx_J n :: st) g u
    | _ => False
  | .aload_n k => match L.getD (k : Nat) none with
    | some (.inr (.inr (.inl (some q)))) => K L (mx_R q :: st) g u
    | some (.inr (.inr (.inr q))) => K L (mx_S q :: st) g u
    | _ => False
  | .aload k => match L.getD k none with
    | some (.inr (.inr (.inl (some q)))) => K L (mx_R q :: st) g u
    | some (.inr (.inr (.inr q))) => K L (mx_S q :: st) g u
    | _ => False
  | .istore_n k => match st with
    | .inl n :: st => K (mx_st1 L (k : Nat) (mx_I n)) st g u
    | _ => False
  | .istore k => match st with
    | .inl n :: st => K (mx_st1 L k (mx_I n)) st g u
    | _ => False
  | .lstore_n k => match st with
    | .inr (.inl n) :: st => K (mx_st2 L (k : Nat) (mx_J n)) st g u
    | _ => False
  | .lstore k => match st with
    | .inr (.inl n) :: st => K (mx_st2 L k (mx_J n)) st g u
    | _ => False
  | .astore_n k => match st with
    | .inr (.inr (.inl (some q))) :: st => K (mx_st1 L (k : Nat) (mx_R q)) st g u
    | _ => False
  | .astore k => match st with
    | .inr (.inr (.inl (some q))) :: st => K (mx_st1 L k (mx_R q)) st g u
    | _ => False
  | .iinc k n => match L.getD k none with
    | some (.inl x) => K (mx_st1 L k (mx_I (x + n))) st g u
    | _ => False
  | .iadd => match st with
    | .inl y :: .inl x :: st => K L (mx_I (x + y) :: st) g u
    | _ => False
  | .isub => match st with
    | .inl y :: .inl x :: st => K L (mx_I (x - y) :: st) g u
    | _ => False
  | .imul => match st with
    | .inl y :: .inl x :: st => K L (mx_I (x * y) :: st) g u
    | _ => False
  | .ineg => match st with
    | .inl x :: st => K L (mx_I (-x) :: st) g u
    | _ => False
  | .iand => match st with
    | .inl y :: .inl x :: st => K L (mx_I (mx_iand x y) :: st) g u
    | _ => False
  | .ior => match st with
    | .inl y :: .inl x :: st => K L (mx_I (mx_ior x y) :: st) g u
    | _ => False
  | .ixor => match st with
    | .inl y :: .inl x :: st => K L (mx_I (mx_ixor x y) :: st) g u
    | _ => False
  | .idiv => match st with
    | .inl y :: .inl x :: st => ¬ w32 y = 0 ∧ K L (mx_I (mx_idiv x y) :: st) g u
    | _ => False
  | .irem => match st with
    | .inl y :: .inl x :: st => ¬ w32 y = 0 ∧ K L (mx_I (mx_irem x y) :: st) g u
    | _ => False
  | .ishl => match st with
    | .inl y :: .inl x :: st => K L (mx_I (mx_ishl x y) :: st) g u
    | _ => False
  | .ishr => match st with
    | .inl y :: .inl x :: st => K L (mx_I (mx_ishr x y) :: st) g u
    | _ => False
  | .iushr => match st with
    | .inl y :: .inl x :: st => K L (mx_I (mx_iushr x y) :: st) g u
    | _ => False
  | .ladd => match st with
    | .inr (.inl y) :: .inr (.inl x) :: st => K L (mx_J (x + y) :: st) g u
    | _ => False
  | .lsub => match st with
    | .inr (.inl y) :: .inr (.inl x) :: st => K L (mx_J (x - y) :: st) g u
    | _ => False
  | .lmul => match st with
    | .inr (.inl y) :: .inr (.inl x) :: st => K L (mx_J (x * y) :: st) g u
    | _ => False
  | .lneg => match st with
    | .inr (.inl x) :: st => K L (mx_J (-x) :: st) g u
    | _ => False
  | .land => match st with
    | .inr (.inl y) :: .inr (.inl x) :: st => K L (mx_J (mx_land x y) :: st) g u
    | _ => False
  | .lor => match st with
    | .inr (.inl y) :: .inr (.inl x) :: st => K L (mx_J (mx_lor x y) :: st) g u
    | _ => False
  | .lxor => match st with
    | .inr (.inl y) :: .inr (.inl x) :: st => K L (mx_J (mx_lxor x y) :: st) g u
    | _ => False
  | .ldiv => match st with
    | .inr (.inl y) :: .inr (.inl x) :: st => ¬ w64 y = 0 ∧ K L (mx_J (mx_ldiv x y) :: st) g u
    | _ => False
  | .lrem => match st with
    | .inr (.inl y) :: .inr (.inl x) :: st => ¬ w64 y = 0 ∧ K L (mx_J (mx_lrem x y) :: st) g u
    | _ => False
  | .lshl => match st with
    | .inl y :: .inr (.inl x) :: st => K L (mx_J (mx_lshl x y) :: st) g u
    | _ => False
  | .lshr => match st with
    | .inl y :: .inr (.inl x) :: st => K L (mx_J (mx_lshr x y) :: st) g u
    | _ => False
  | .lushr => match st with
    | .inl y :: .inr (.inl x) :: st => K L (mx_J (mx_lushr x y) :: st) g u
    | _ => False
  | .i2l => match st with
    | .inl x :: st => K L (mx_J (w32 x) :: st) g u
    | _ => False
  | .l2i => match st with
    | .inr (.inl x) :: st => K L (mx_I x :: st) g u
    | _ => False
  | .i2b => match st with
    | .inl x :: st => K L (mx_I (mx_i2b x) :: st) g u
    | _ => False
  | .i2s => match st with
    | .inl x :: st => K L (mx_I (mx_i2s x) :: st) g u
    | _ => False
  | .i2c => match st with
    | .inl x :: st => K L (mx_I (mx_i2c x) :: st) g u
    | _ => False
  | .lcmp => match st with
    | .inr (.inl y) :: .inr (.inl x) :: st => K L (mx_I (mx_lcmp x y) :: st) g u
    | _ => False
  | .dup => match st with
    | .inr (.inl _) :: _ => False
    | v :: st => K L (v :: v :: st) g u
    | _ => False
  | .dup2 => match st with
    | .inr (.inl n) :: st => K L (mx_J n :: mx_J n :: st) g u
    | _ :: .inr (.inl _) :: _ => False
    | v :: w :: st => K L (v :: w :: v :: w :: st) g u
    | _ => False
  | .pop => match st with
    | .inr (.inl _) :: _ => False
    | _ :: st => K L st g u
    | _ => False
  | .pop2 => match st with
    | .inr (.inl _) :: st => K L st g u
    | _ => False
  | .ifCond cd _ => match st, e.2.2.2 with
    | .inl x :: st, t :: _ => (mx_cmp cd x 0 → J t L st g u) ∧ (¬ mx_cmp cd x 0 → K L st g u)
    | _, _ => False
  | .if_icmp cd _ => match st, e.2.2.2 with
    | .inl y :: .inl x :: st, t :: _ => (mx_cmp cd x y → J t L st g u) ∧ (¬ mx_cmp cd x y → K L st g u)
    | _, _ => False
  | .goto _ => match e.2.2.2 with
    | t :: _ => J t L st g u
    | _ => False
  | .tableswitch _ lo hi _ => match st, e.2.2.2 with
    | .inl x :: st, t :: ts => (¬ (lo ≤ w32 x ∧ w32 x ≤ hi) → J t L st g u) ∧ (lo ≤ w32 x ∧ w32 x ≤ hi → J (ts.getD (w32 x - lo).toNat 0) L st g u)
    | _, _ => False
  | .lookupswitch _ ps => match st, e.2.2.2 with
    | .inl x :: st, t :: ts => (¬ (∃ q ∈ ps.toList, q.1 = w32 x) → J t L st g u) ∧ ∀ (k : Nat) (q : Int × Int), ps.toList[k]? = some q → q.1 = w32 x → J (ts.getD k 0) L st g u
    | _, _ => False
  | .getfield _ => match e.2.2.2 with
    | 90 :: f :: _ => match st with
      | .inr (.inr (.inr q)) :: st => match Nat.ble 10 q && Nat.ble q 36 with
        | true => (match f with
          | 0 => K L (mx_S (q + 90) :: st) g u
          | _ => K L (mx_I 0 :: st) g u)
        | false => False
      | _ => False
    | ci :: k :: t :: _ => match st with
      | .inr (.inr (.inl (some q))) :: st => match sh[q]? with
        | some (.inl (c, rf)) => (match Nat.beq c ci with
          | true => (match t with
            | 3 => match rf.getD k none with
              | some r => K L (mx_R r :: st) g u
              | none => False
            | t => K L (mx_tag t (g q k) :: st) g u)
          | false => False)
        | _ => False
      | _ => False
    | _ => False
  | .putfield _ => match e.2.2.2 with
    | ci :: k :: 1 :: _ => match st with
      | .inr (.inl n) :: .inr (.inr (.inl (some q))) :: st => match sh[q]? with
        | some (.inl (c, _)) => (match Nat.beq c ci with | true => K L st (mx_up g q k n) u | false => False)
        | _ => False
      | _ => False
    | ci :: k :: 2 :: _ => match st with
      | .inl n :: .inr (.inr (.inl (some q))) :: st => match sh[q]? with
        | some (.inl (c, _)) => (match Nat.beq c ci with | true => (w32 n = 0 ∨ w32 n = 1) ∧ K L st (mx_up g q k n) u | false => False)
        | _ => False
      | _ => False
    | ci :: k :: 0 :: _ => match st with
      | .inl n :: .inr (.inr (.inl (some q))) :: st => match sh[q]? with
        | some (.inl (c, _)) => (match Nat.beq c ci with | true => K L st (mx_up g q k n) u | false => False)
        | _ => False
      | _ => False
    | _ => False
  | .iaload => match st with
    | .inl i :: .inr (.inr (.inl (some q))) :: st => match sh[q]? with
      | some (.inr (0, n)) => mx_in i n ∧ K L (mx_I (g q (mx_at i)) :: st) g u
      | _ => False
    | .inl i :: .inr (.inr (.inr q)) :: st => match F.1 q with
      | some (n, f) => mx_in i n ∧ K L (mx_I (f (mx_at i)) :: st) g u
      | none => False
    | _ => False
  | .baload => match st with
    | .inl i :: .inr (.inr (.inl (some q))) :: st => match sh[q]? with
      | some (.inr (2, n)) => mx_in i n ∧ K L (mx_I (g q (mx_at i)) :: st) g u
      | _ => False
    | .inl i :: .inr (.inr (.inr q)) :: st => match mx_sB q with
      | some (n, f) => mx_in i n ∧ K L (mx_I (f (mx_at i)) :: st) g u
      | none => False
    | _ => False
  | .laload => match st with
    | .inl i :: .inr (.inr (.inl (some q))) :: st => match sh[q]? with
      | some (.inr (1, n)) => mx_in i n ∧ K L (mx_J (g q (mx_at i)) :: st) g u
      | _ => False
    | _ => False
  | .iastore => match st with
    | .inl x :: .inl i :: .inr (.inr (.inl (some q))) :: st => match sh[q]? with
      | some (.inr (0, n)) => mx_in i n ∧ K L st (mx_up g q (mx_at i) x) u
      | _ => False
    | _ => False
  | .bastore => match st with
    | .inl x :: .inl i :: .inr (.inr (.inl (some q))) :: st => match sh[q]? with
      | some (.inr (2, n)) => mx_in i n ∧ (w32 x = 0 ∨ w32 x = 1) ∧ K L st (mx_up g q (mx_at i) x) u
      | _ => False
    | _ => False
  | .lastore => match st with
    | .inr (.inl x) :: .inl i :: .inr (.inr (.inl (some q))) :: st => match sh[q]? with
      | some (.inr (1, n)) => mx_in i n ∧ K L st (mx_up g q (mx_at i) x) u
      | _ => False
    | _ => False
  | .arraylength => match st with
    | .inr (.inr (.inl (some q))) :: st => match sh[q]? with
      | some (.inr (_, n)) => K L (mx_I n :: st) g u
      | _ => False
    | .inr (.inr (.inr q)) :: st => match F.1 q with
      | some (n, _) => K L (mx_I n :: st) g u
      | none => match mx_sB q with
        | some (n, _) => K L (mx_I n :: st) g u
        | none => False
    | _ => False
  | .new _ => match e.2.2.2 with
    | 1 :: x :: _ => (match F.2.1, Nat.ble (mx_wt st) 8 with
      | [], true => u.1 + 1 ≤ F.2.2.1 ∧ u.2 + 6 ≤ F.2.2.2 ∧ X x g
      | _, _ => False)
    | _ => False
  | .ldc _ => match e.2.2.2 with
    | 0 :: s :: n :: _ => K L (mx_I (if s = 0 then (n : Int) else -(n : Int)) :: st) g u
    | 1 :: k :: _ => K L (mx_S k :: st) g u
    | _ => False
  | .ldc_w _ => match e.2.2.2 with
    | 0 :: s :: n :: _ => K L (mx_I (if s = 0 then (n : Int) else -(n : Int)) :: st) g u
    | 1 :: k :: _ => K L (mx_S k :: st) g u
    | _ => False
  | .ldc2_w _ => match e.2.2.2 with
    | s :: n :: _ => K L (mx_J (if s = 0 then (n : Int) else -(n : Int)) :: st) g u
    | _ => False
  | .getstatic _ => match e.2.2.2 with
    | 50 :: _ => K L (mx_I 1 :: st) g u
    | 51 :: _ => K L (mx_Z :: st) g u ∧ K L (mx_S 200 :: st) g u
    | k :: _ => K L (mx_S k :: st) g u
    | _ => False
  | .invokestatic _ => match e.2.2.2 with
    | 0 :: m :: n :: _ => match mx_tk n [] st with
      | some (as, rest) => mz_go F rk C e.1 L K J X m as rest g u
      | none => False
    | 5 :: m :: n :: mc :: ms :: _ => match mx_tk n [] st with
      | some (as, rest) => u.1 + mc ≤ F.2.2.1 ∧ u.2 + ms ≤ F.2.2.2 ∧ mz_go F rk C e.1 L K J X m as rest g (u.1 + mc, u.2 + ms)
      | none => False
    | 8 :: t :: _ => match st with
      | .inl n :: .inl dp :: .inr (.inr (.inl (some b))) :: .inl sp :: .inr (.inr (.inl (some a))) :: st => match sh[a]?, sh[b]? with
        | some (.inr (ta, na)), some (.inr (tb, nb)) => (match Nat.beq ta t && Nat.beq tb t && Nat.ble (mx_wt st) 8 with | true => 0 ≤ w32 sp ∧ 0 ≤ w32 dp ∧ 0 ≤ w32 n ∧ w32 sp + w32 n ≤ (na : Int) ∧ w32 dp + w32 n ≤ (nb : Int) ∧ K L st (mx_cpy g a b (mx_at sp) (mx_at dp) (mx_at n)) u | false => False)
        | _, _ => False
      | _ => False
    | _ => False
  | .invokevirtual _ => match e.2.2.2 with
    | 0 :: m :: n :: ci :: _ => match mx_tk n [] st with
      | some (as, .inr (.inr (.inl (some q))) :: rest) => match sh[q]? with
        | some (.inl (c, _)) => (match Nat.beq c ci with | true => mz_go F rk C e.1 L K J X m (mx_R q :: as) rest g u | false => False)
        | _ => False
      | _ => False
    | 5 :: m :: n :: ci :: mc :: ms :: _ => match mx_tk n [] st with
      | some (as, .inr (.inr (.inl (some q))) :: rest) => match sh[q]? with
        | some (.inl (c, _)) => (match Nat.beq c ci with | true => u.1 + mc ≤ F.2.2.1 ∧ u.2 + ms ≤ F.2.2.2 ∧ mz_go F rk C e.1 L K J X m (mx_R q :: as) rest g (u.1 + mc, u.2 + ms) | false => False)
        | _ => False
      | _ => False
    | 7 :: m :: n :: _ => match mx_tk n [] st with
      | some (as, .inr (.inr (.inr q)) :: rest) => (match Nat.ble 10 q && Nat.ble q 36 with
        | true => mz_go F rk C e.1 L K J X m (mx_S q :: as) rest g u
        | false => False)
      | _ => False
    | _ => False
  | .ireturn => match st with
    | [.inl n] => match rt with
      | 1 => (match e.2.2.2 with
        | 2 :: _ => (w32 n = 0 ∨ w32 n = 1) ∧ Q n g
        | 3 :: _ => 0 ≤ w32 n ∧ w32 n ≤ 65535 ∧ Q n g
        | 4 :: _ => -128 ≤ w32 n ∧ w32 n ≤ 127 ∧ Q n g
        | _ => Q n g)
      | _ => False
    | _ => False
  | .lreturn => match st with
    | [.inr (.inl n)] => match rt with
      | 2 => Q n g
      | _ => False
    | _ => False
  | .return_ => match st with
    | [] => match rt with
      | 0 => Q 0 g
      | _ => False
    | _ => False
  | _ => False
def mz_B (F : mx_F) (sh : List mx_d) (rk : Nat → Nat) (rt : Nat) (C : mz_C) (J : mz_J) (Q : mz_K) (X : mz_X) : List mx_E → mx_L → List mx_v → mz_S → Nat × Nat → Prop
  | [], _, _, _, _ => False
  | e :: r, L, st, g, u => mz_step F sh rk rt C e L st g u (fun L st g u => mz_B F sh rk rt C J Q X r L st g u) J Q X
def mz_A (F : mx_F) (sh : List mx_d) (rk : Nat → Nat) (rt : Nat) (C : mz_C) (tb : List mx_E) (Q : mz_K) (X : mz_X) (pc : Nat) (L : mx_L) (st : List mx_v) (g : mz_S) (u : Nat × Nat) : Prop :=
  ∀ P : mz_J, (∀ (J : mz_J) pc L st g u, (∀ pc L st g u, J pc L st g u → P pc L st g u) → mz_B F sh rk rt C J Q X (mx_sfx tb pc) L st g u → P pc L st g u) → P pc L st g u
theorem mz_A_in {F : mx_F} {sh : List mx_d} {rk : Nat → Nat} {rt : Nat} {C : mz_C} {tb : List mx_E} {Q : mz_K} {X : mz_X} {pc : Nat} {L : mx_L} {st : List mx_v} {g : mz_S} {u : Nat × Nat} (hB : mz_B F sh rk rt C (mz_A F sh rk rt C tb Q X) Q X (mx_sfx tb pc) L st g u) : mz_A F sh rk rt C tb Q X pc L st g u :=
  fun P hP => hP (mz_A F sh rk rt C tb Q X) pc L st g u (fun pc L st g u z => z P hP) hB
/-- what the small machine's end is, seen from the numbers -/
def mz_up (sh : List mx_d) (rt : Nat) (Q : mz_K) (X : mz_X) (o : mx_O) (h : mx_H) : Prop := h.1 = sh ∧ match o with
  | .inl r => ∃ n, r = mz_rv rt n ∧ Q n h.2
  | .inr x => X x h.2
def mz_Ju (sh : List mx_d) (J : mz_J) (pc : Nat) (L : mx_L) (st : List mx_v) (h : mx_H) (u : Nat × Nat) : Prop := h.1 = sh ∧ J pc L st h.2 u
theorem mz_tg_rv (k : Nat) (n : Int) (st : List mx_v) : (mz_rv k n).toList ++ st = mz_tg k n st := by
  unfold mz_rv mz_tg
  split <;> rfl
theorem mz_ir {inf : List Nat} {A B C D : Prop} (h2 : ∀ r, inf = 2 :: r → False) (h3 : ∀ r, inf = 3 :: r → False) (h4 : ∀ r, inf = 4 :: r → False) (h : D) : (match (generalizing := false) inf with
    | 2 :: _ => A
    | 3 :: _ => B
    | 4 :: _ => C
    | _ => D) := by
  split
  · exact (h2 _ rfl).elim
  · exact (h3 _ rfl).elim
  · exact (h4 _ rfl).elim
  · exact h
section MZ
variable {F : mx_F} {sh : List mx_d} {rk : Nat → Nat} {rt : Nat} {C : mz_C} {Cx : mx_C} {J : mz_J} {Q : mz_K} {X : mz_X}
theorem mz_goes (hC : ∀ m as g K X, C m as g K X → Cx m as (sh, g) (mz_up sh (rk m) K X)) (hM : ∀ m as h R R', (∀ o h, R o h → R' o h) → Cx m as h R → Cx m as h R') {pc : Nat} {L : mx_L} {Kz : mx_L → List mx_v → mz_S → Nat × Nat → Prop} {K : mx_L → List mx_v → mx_H → Nat × Nat → Prop} (hK : ∀ L st g u, Kz L st g u → K L st (sh, g) u) {m : Nat} {as rest : List mx_v} {g : mz_S} {u : Nat × Nat}
    (h : mz_go F rk C pc L Kz J X m as rest g u) : mx_go F Cx pc L K (mz_Ju sh J) (mz_up sh rt Q X) m as rest (sh, g) u := by
  unfold mz_go at h
  unfold mx_go
  split at h
  · next hb =>
    try simp only [hb]
    refine hM _ _ _ _ _ (fun o h' hu => ?_) (hC _ _ _ _ _ h)
    obtain ⟨h1, h2⟩ := hu
    obtain ⟨s', g'⟩ := h'
    dsimp only at h1 h2
    subst h1
    match o, h2 with
    | .inl r, h2 =>
      obtain ⟨n, e, h3⟩ := h2
      subst e
      show K L ((mz_rv (rk m) n).toList ++ rest) (s', g') u
      rw [mz_tg_rv]
      exact hK _ _ _ _ h3
    | .inr x, h2 =>
      have h2 : mz_hx F pc L u J X x g' := h2
      unfold mz_hx at h2
      unfold mx_aft
      dsimp only
      split at h2
      · next e9 => simp only [e9]; exact ⟨rfl, h2⟩
      · next e9 => simp only [e9]; exact ⟨rfl, h2⟩
  · exact h.elim
set_option maxHeartbeats 4000000 in
set_option maxRecDepth 100000 in
theorem mz_steps (hC : ∀ m as g K X, C m as g K X → Cx m as (sh, g) (mz_up sh (rk m) K X)) (hM : ∀ m as h R R', (∀ o h, R o h → R' o h) → Cx m as h R → Cx m as h R') {pc ln : Nat} {ig : Instr} {inf : List Nat} {L : mx_L} {Kz : mx_L → List mx_v → mz_S → Nat × Nat → Prop} {K : mx_L → List mx_v → mx_H → Nat × Nat → Prop} (hK : ∀ L st g u, Kz L st g u → K L st (sh, g) u) {st : List mx_v} {g : mz_S} {u : Nat × Nat}
    (hz : mz_step F sh rk rt C (pc, ig, ln, inf) L st g u Kz J Q X) : mx_step F Cx (pc, ig, ln, inf) L st (sh, g) u K (mz_Ju sh J) (mz_up sh rt Q X) := by
  have go := @mz_goes F sh rk rt C Cx J Q X hC hM
  cases ig
  case iconst n =>
    unfold mz_step at hz
    unfold mx_step
    dsimp only at hz ⊢
    exact hK _ _ _ _ hz
  case bipush n =>
    unfold mz_step at hz
    unfold mx_step
    dsimp only at hz ⊢
    exact hK _ _ _ _ hz
  case sipush n =>
    unfold mz_step at hz
    unfold mx_step
    dsimp only at hz ⊢
    exact hK _ _ _ _ hz
  case lconst n =>
    unfold mz_step at hz
    unfold mx_step
    dsimp only at hz ⊢
    exact hK _ _ _ _ hz
  case iload_n k =>
    unfold mz_step at hz
    unfold mx_step
    dsimp only at hz ⊢
    split at hz
    · next e9 => rw [e9]; exact hK _ _ _ _ hz
    · exact hz.elim
  case iload k =>
    unfold mz_step at hz
    unfold mx_step
    dsimp only at hz ⊢
    split at hz
    · next e9 => rw [e9]; exact hK _ _ _ _ hz
    · exact hz.elim
  case lload_n k =>
    unfold mz_step at hz
    unfold mx_step
    dsimp only at hz ⊢
    split at hz
    · next e9 => rw [e9]; exact hK _ _ _ _ hz
    · exact hz.elim
  case lload k =>
    unfold mz_step at hz
    unfold mx_step
    dsimp only at hz ⊢
    split at hz
    · next e9 => rw [e9]; exact hK _ _ _ _ hz
    · exact hz.elim
  case aload_n k =>
    unfold mz_step at hz
    unfold mx_step
    dsimp only at hz ⊢
    split at hz
    · next e9 => rw [e9]; exact hK _ _ _ _ hz
    · next e9 => rw [e9]; exact hK _ _ _ _ hz
    · exact hz.elim
  case aload k =>
    unfold mz_step at hz
    unfold mx_step
    dsimp only at hz ⊢
    split at hz
    · next e9 => rw [e9]; exact hK _ _ _ _ hz
    · next e9 => rw [e9]; exact hK _ _ _ _ hz
    · exact hz.elim
  case istore_n k =>
    unfold mz_step at hz
    unfold mx_step
    dsimp only at hz ⊢
    split at hz
    · exact hK _ _ _ _ hz
    · exact hz.elim
  case istore k =>
    unfold mz_step at hz
    unfold mx_step
    dsimp only at hz ⊢
    split at hz
    · exact hK _ _ _ _ hz
    · exact hz.elim
  case lstore_n k =>
    unfold mz_step at hz
    unfold mx_step
    dsimp only at hz ⊢
    split at hz
    · exact hK _ _ _ _ hz
    · exact hz.elim
  case lstore k =>
    unfold mz_step at hz
    unfold mx_step
    dsimp only at hz ⊢
    split at hz
    · exact hK _ _ _ _ hz
    · exact hz.elim
  case astore_n k =>
    unfold mz_step at hz
    unfold mx_step
    dsimp only at hz ⊢
    split at hz
    · exact hK _ _ _ _ hz
    · exact hz.elim
  case astore k =>
    unfold mz_step at hz
    unfold mx_step
    dsimp only at hz ⊢
    split at hz
    · exact hK _ _ _ _ hz
    · exact hz.elim
  case iinc k n =>
    unfold mz_step at hz
    unfold mx_step
    dsimp only at hz ⊢
    split at hz
    · next e9 => rw [e9]; exact hK _ _ _ _ hz
    · exact hz.elim
  case iadd =>
    unfold mz_step at hz
    unfold mx_step
    dsimp only at hz ⊢
    split at hz
    · exact hK _ _ _ _ hz
    · exact hz.elim
  case isub =>
    unfold mz_step at hz
    unfold mx_step
    dsimp only at hz ⊢
    split at hz
    · exact hK _ _ _ _ hz
    · exact hz.elim
  case imul =>
    unfold mz_step at hz
    unfold mx_step
    dsimp only at hz ⊢
    split at hz
    · exact hK _ _ _ _ hz
    · exact hz.elim
  case ineg =>
    unfold mz_step at hz
    unfold mx_step
    dsimp only at hz ⊢
    split at hz
    · exact hK _ _ _ _ hz
    · exact hz.elim
  case iand =>
    unfold mz_step at hz
    unfold mx_step
    dsimp only at hz ⊢
    split at hz
    · exact hK _ _ _ _ hz
    · exact hz.elim
  case ior =>
    unfold mz_step at hz
    unfold mx_step
    dsimp only at hz ⊢
    split at hz
    · exact hK _ _ _ _ hz
    · exact hz.elim
  case ixor =>
    unfold mz_step at hz
    unfold mx_step
    dsimp only at hz ⊢
    split at hz
    · exact hK _ _ _ _ hz
    · exact hz.elim
  case ishl =>
    unfold mz_step at hz
    unfold mx_step
    dsimp only at hz ⊢
    split at hz
    · exact hK _ _ _ _ hz
    · exact hz.elim
  case ishr =>
    unfold mz_step at hz
    unfold mx_step
    dsimp only at hz ⊢
    split at hz
    · exact hK _ _ _ _ hz
    · exact hz.elim
  case iushr =>
    unfold mz_step at hz
    unfold mx_step
    dsimp only at hz ⊢
    split at hz
    · exact hK _ _ _ _ hz
    · exact hz.elim
  case ladd =>
    unfold mz_step at hz
    unfold mx_step
    dsimp only at hz ⊢
    split at hz
    · exact hK _ _ _ _ hz
    · exact hz.elim
  case lsub =>
    unfold mz_step at hz
    unfold mx_step
    dsimp only at hz ⊢
    split at hz
    · exact hK _ _ _ _ hz
    · exact hz.elim
  case lmul =>
    unfold mz_step at hz
    unfold mx_step
    dsimp only at hz ⊢
    split at hz
    · exact hK _ _ _ _ hz
    · exact hz.elim
  case lneg =>
    unfold mz_step at hz
    unfold mx_step
    dsimp only at hz ⊢
    split at hz
    · exact hK _ _ _ _ hz
    · exact hz.elim
  case land =>
    unfold mz_step at hz
    unfold mx_step
    dsimp only at hz ⊢
    split at hz
    · exact hK _ _ _ _ hz
    · exact hz.elim
  case lor =>
    unfold mz_step at hz
    unfold mx_step
    dsimp only at hz ⊢
    split at hz
    · exact hK _ _ _ _ hz
    · exact hz.elim
  case lxor =>
    unfold mz_step at hz
    unfold mx_step
    dsimp only at hz ⊢
    split at hz
    · exact hK _ _ _ _ hz
    · exact hz.elim
  case lshl =>
    unfold mz_step at hz
    unfold mx_step
    dsimp only at hz ⊢
    split at hz
    · exact hK _ _ _ _ hz
    · exact hz.elim
  case lshr =>
    unfold mz_step at hz
    unfold mx_step
    dsimp only at hz ⊢
    split at hz
    · exact hK _ _ _ _ hz
    · exact hz.elim
  case lushr =>
    unfold mz_step at hz
    unfold mx_step
    dsimp only at hz ⊢
    split at hz
    · exact hK _ _ _ _ hz
    · exact hz.elim
  case i2l =>
    unfold mz_step at hz
    unfold mx_step
    dsimp only at hz ⊢
    split at hz
    · exact hK _ _ _ _ hz
    · exact hz.elim
  case l2i =>
    unfold mz_step at hz
    unfold mx_step
    dsimp only at hz ⊢
    split at hz
    · exact hK _ _ _ _ hz
    · exact hz.elim
  case i2b =>
    unfold mz_step at hz
    unfold mx_step
    dsimp only at hz ⊢
    split at hz
    · exact hK _ _ _ _ hz
    · exact hz.elim
  case i2s =>
    unfold mz_step at hz
    unfold mx_step
    dsimp only at hz ⊢
    split at hz
    · exact hK _ _ _ _ hz
    · exact hz.elim
  case i2c =>
    unfold mz_step at hz
    unfold mx_step
    dsimp only at hz ⊢
    split at hz
    · exact hK _ _ _ _ hz
    · exact hz.elim
  case lcmp =>
    unfold mz_step at hz
    unfold mx_step
    dsimp only at hz ⊢
    split at hz
    · exact hK _ _ _ _ hz
    · exact hz.elim
  case idiv =>
    unfold mz_step at hz
    unfold mx_step
    dsimp only at hz ⊢
    split at hz
    · exact ⟨hz.1, hK _ _ _ _ hz.2⟩
    · exact hz.elim
  case irem =>
    unfold mz_step at hz
    unfold mx_step
    dsimp only at hz ⊢
    split at hz
    · exact ⟨hz.1, hK _ _ _ _ hz.2⟩
    · exact hz.elim
  case ldiv =>
    unfold mz_step at hz
    unfold mx_step
    dsimp only at hz ⊢
    split at hz
    · exact ⟨hz.1, hK _ _ _ _ hz.2⟩
    · exact hz.elim
  case lrem =>
    unfold mz_step at hz
    unfold mx_step
    dsimp only at hz ⊢
    split at hz
    · exact ⟨hz.1, hK _ _ _ _ hz.2⟩
    · exact hz.elim
  case dup =>
    unfold mz_step at hz
    unfold mx_step
    dsimp only at hz ⊢
    split at hz
    · exact hz.elim
    · next v st9 hne =>
      match v, hne, hz with
      | .inl n, _, hz => exact hK _ _ _ _ hz
      | .inr (.inl n), hne, _ => exact (hne n rfl).elim
      | .inr (.inr r), _, hz => exact hK _ _ _ _ hz
    · exact hz.elim
  case pop =>
    unfold mz_step at hz
    unfold mx_step
    dsimp only at hz ⊢
    split at hz
    · exact hz.elim
    · next v st9 hne =>
      match v, hne, hz with
      | .inl n, _, hz => exact hK _ _ _ _ hz
      | .inr (.inl n), hne, _ => exact (hne n rfl).elim
      | .inr (.inr r), _, hz => exact hK _ _ _ _ hz
    · exact hz.elim
  case pop2 =>
    unfold mz_step at hz
    unfold mx_step
    dsimp only at hz ⊢
    split at hz
    · exact hK _ _ _ _ hz
    · exact hz.elim
  case dup2 =>
    unfold mz_step at hz
    unfold mx_step
    dsimp only at hz ⊢
    split at hz
    · exact hK _ _ _ _ hz
    · exact hz.elim
    · next v w st9 hne1 hne2 =>
      match v, w, hne1, hne2, hz with
      | .inr (.inl n), _, hne1, _, _ => exact (hne1 n rfl).elim
      | .inl _, .inr (.inl n), _, hne2, _ => exact (hne2 n rfl).elim
      | .inr (.inr _), .inr (.inl n), _, hne2, _ => exact (hne2 n rfl).elim
      | .inl _, .inl _, _, _, hz => exact hK _ _ _ _ hz
      | .inl _, .inr (.inr _), _, _, hz => exact hK _ _ _ _ hz
      | .inr (.inr _), .inl _, _, _, hz => exact hK _ _ _ _ hz
      | .inr (.inr _), .inr (.inr _), _, _, hz => exact hK _ _ _ _ hz
    · exact hz.elim
  case ifCond cd off =>
    unfold mz_step at hz
    unfold mx_step
    dsimp only at hz ⊢
    split at hz
    · exact ⟨fun z => ⟨rfl, hz.1 z⟩, fun z => hK _ _ _ _ (hz.2 z)⟩
    · exact hz.elim
  case if_icmp cd off =>
    unfold mz_step at hz
    unfold mx_step
    dsimp only at hz ⊢
    split at hz
    · exact ⟨fun z => ⟨rfl, hz.1 z⟩, fun z => hK _ _ _ _ (hz.2 z)⟩
    · exact hz.elim
  case goto off =>
    unfold mz_step at hz
    unfold mx_step
    dsimp only at hz ⊢
    split at hz
    · exact ⟨rfl, hz⟩
    · exact hz.elim
  case tableswitch df lo hi offs =>
    unfold mz_step at hz
    unfold mx_step
    dsimp only at hz ⊢
    split at hz
    · exact ⟨fun z => ⟨rfl, hz.1 z⟩, fun z => ⟨rfl, hz.2 z⟩⟩
    · exact hz.elim
  case lookupswitch df ps =>
    unfold mz_step at hz
    unfold mx_step
    dsimp only at hz ⊢
    split at hz
    · exact ⟨fun z => ⟨rfl, hz.1 z⟩, fun k q a b => ⟨rfl, hz.2 k q a b⟩⟩
    · exact hz.elim
  case getfield i =>
    unfold mz_step at hz
    unfold mx_step
    dsimp only at hz ⊢
    split at hz
    · split at hz
      · split at hz
        · next hb =>
          simp only [hb]
          split at hz
          · exact hK _ _ _ _ hz
          · next hne =>
            split
            · exact (hne rfl).elim
            · exact hK _ _ _ _ hz
        · exact hz.elim
      · exact hz.elim
    · split at hz
      · split at hz
        · next e9 =>
          simp only [e9]
          split at hz
          · next hb =>
            refine ⟨Nat.eq_of_beq_eq_true hb, ?_⟩
            split at hz
            · split at hz
              · next e8 => simp only [e8]; exact hK _ _ _ _ hz
              · exact hz.elim
            · next hne =>
              split
              · exact (hne rfl).elim
              · exact hK _ _ _ _ hz
          · exact hz.elim
        · exact hz.elim
      · exact hz.elim
    · exact hz.elim
  case putfield i =>
    unfold mz_step at hz
    unfold mx_step
    dsimp only at hz ⊢
    split at hz
    · split at hz
      · split at hz
        · next e9 =>
          simp only [e9]
          split at hz
          · next hb =>
            refine ⟨Nat.eq_of_beq_eq_true hb, ?_⟩
            exact hK _ _ _ _ hz
          · exact hz.elim
        · exact hz.elim
      · exact hz.elim
    · split at hz
      · split at hz
        · next e9 =>
          simp only [e9]
          split at hz
          · next hb =>
            refine ⟨Nat.eq_of_beq_eq_true hb, ?_⟩
            exact ⟨ hz.1, hK _ _ _ _ hz.2 ⟩
          · exact hz.elim
        · exact hz.elim
      · exact hz.elim
    · split at hz
      · split at hz
        · next e9 =>
          simp only [e9]
          split at hz
          · next hb =>
            refine ⟨Nat.eq_of_beq_eq_true hb, ?_⟩
            exact hK _ _ _ _ hz
          · exact hz.elim
        · exact hz.elim
      · exact hz.elim
    · exact hz.elim
  case iaload =>
    unfold mz_step at hz
    unfold mx_step
    dsimp only at hz ⊢
    split at hz
    · split at hz
      · next e9 => simp only [e9]; exact ⟨hz.1, hK _ _ _ _ hz.2⟩
      · exact hz.elim
    · split at hz
      · next e9 => simp only [e9]; exact ⟨hz.1, hK _ _ _ _ hz.2⟩
      · exact hz.elim
    · exact hz.elim
  case baload =>
    unfold mz_step at hz
    unfold mx_step
    dsimp only at hz ⊢
    split at hz
    · split at hz
      · next e9 => simp only [e9]; exact ⟨hz.1, hK _ _ _ _ hz.2⟩
      · exact hz.elim
    · split at hz
      · next e9 => simp only [e9]; exact ⟨hz.1, hK _ _ _ _ hz.2⟩
      · exact hz.elim
    · exact hz.elim
  case laload =>
    unfold mz_step at hz
    unfold mx_step
    dsimp only at hz ⊢
    split at hz
    · split at hz
      · next e9 => simp only [e9]; exact ⟨hz.1, hK _ _ _ _ hz.2⟩
      · exact hz.elim
    · exact hz.elim
  case iastore =>
    unfold mz_step at hz
    unfold mx_step
    dsimp only at hz ⊢
    split at hz
    · split at hz
      · next e9 => simp only [e9]; exact ⟨hz.1, hK _ _ _ _ hz.2⟩
      · exact hz.elim
    · exact hz.elim
  case lastore =>
    unfold mz_step at hz
    unfold mx_step
    dsimp only at hz ⊢
    split at hz
    · split at hz
      · next e9 => simp only [e9]; exact ⟨hz.1, hK _ _ _ _ hz.2⟩
      · exact hz.elim
    · exact hz.elim
  case bastore =>
    unfold mz_step at hz
    unfold mx_step
    dsimp only at hz ⊢
    split at hz
    · split at hz
      · next e9 => simp only [e9]; exact ⟨hz.1, hz.2.1, hK _ _ _ _ hz.2.2⟩
      · exact hz.elim
    · exact hz.elim
  case arraylength =>
    unfold mz_step at hz
    unfold mx_step
    dsimp only at hz ⊢
    split at hz
    · split at hz
      · next e9 => simp only [e9]; exact hK _ _ _ _ hz
      · exact hz.elim
    · split at hz
      · next e9 => simp only [e9]; exact hK _ _ _ _ hz
      · next e9 =>
        simp only [e9]
        split at hz
        · next e8 => simp only [e8]; exact hK _ _ _ _ hz
        · exact hz.elim
    · exact hz.elim
  case new i =>
    unfold mz_step at hz
    unfold mx_step
    dsimp only at hz ⊢
    split at hz
    · split at hz
      · next e9 e8 =>
        exact ⟨e9, hz.1, hz.2.1, Nat.le_of_ble_eq_true e8, rfl, hz.2.2⟩
      · exact hz.elim
    · exact hz.elim
  case ldc i =>
    unfold mz_step at hz
    unfold mx_step
    dsimp only at hz ⊢
    split at hz
    · exact hK _ _ _ _ hz
    · exact hK _ _ _ _ hz
    · exact hz.elim
  case ldc_w i =>
    unfold mz_step at hz
    unfold mx_step
    dsimp only at hz ⊢
    split at hz
    · exact hK _ _ _ _ hz
    · exact hK _ _ _ _ hz
    · exact hz.elim
  case ldc2_w i =>
    unfold mz_step at hz
    unfold mx_step
    dsimp only at hz ⊢
    split at hz
    · exact hK _ _ _ _ hz
    · exact hz.elim
  case getstatic i =>
    unfold mz_step at hz
    unfold mx_step
    dsimp only at hz ⊢
    split at hz
    · exact hK _ _ _ _ hz
    · exact ⟨hK _ _ _ _ hz.1, hK _ _ _ _ hz.2⟩
    · next k r hn1 hn2 =>
      split
      · next e9 => injection e9 with e1 e2; exact (hn1 e1).elim
      · next e9 => injection e9 with e1 e2; exact (hn2 e1).elim
      · next e9 => injection e9 with e1 e2; subst e1; exact hK _ _ _ _ hz
      · next h9 => exact (h9 _ _ rfl).elim
    · exact hz.elim
  case invokestatic i =>
    unfold mz_step at hz
    unfold mx_step
    dsimp only at hz ⊢
    split at hz
    · split at hz
      · next e9 => simp only [e9]; exact go hK hz
      · exact hz.elim
    · split at hz
      · next e9 => simp only [e9]; exact ⟨hz.1, hz.2.1, go hK hz.2.2⟩
      · exact hz.elim
    · split at hz
      · split at hz
        · next e9 e8 =>
          simp only [e9, e8]
          split at hz
          · next hb =>
            simp only [Bool.and_eq_true] at hb
            exact ⟨Nat.eq_of_beq_eq_true hb.1.1, Nat.eq_of_beq_eq_true hb.1.2, hz.1, hz.2.1, hz.2.2.1, hz.2.2.2.1, hz.2.2.2.2.1, Nat.le_of_ble_eq_true hb.2, hK _ _ _ _ hz.2.2.2.2.2⟩
          · exact hz.elim
        · exact hz.elim
      · exact hz.elim
    · exact hz.elim
  case invokevirtual i =>
    unfold mz_step at hz
    unfold mx_step
    dsimp only at hz ⊢
    split at hz
    · split at hz
      · next e9 =>
        simp only [e9]
        split at hz
        · next e8 =>
          simp only [e8]
          split at hz
          · next hb =>
            refine ⟨Nat.eq_of_beq_eq_true hb, ?_⟩
            exact go hK hz
          · exact hz.elim
        · exact hz.elim
      · exact hz.elim
    · split at hz
      · next e9 =>
        simp only [e9]
        split at hz
        · next e8 =>
          simp only [e8]
          split at hz
          · next hb =>
            refine ⟨Nat.eq_of_beq_eq_true hb, ?_⟩
            exact ⟨ hz.1, hz.2.1, go hK hz.2.2 ⟩
          · exact hz.elim
        · exact hz.elim
      · exact hz.elim
    · split at hz
      · next e9 =>
        simp only [e9]
        split at hz
        · next e8 => simp only [e8]; exact go hK hz
        · exact hz.elim
      · exact hz.elim
    · exact hz.elim
  case ireturn =>
    unfold mz_step at hz
    unfold mx_step
    dsimp only at hz ⊢
    split at hz
    · split at hz
      · split at hz
        · exact ⟨hz.1, rfl, _, rfl, hz.2⟩
        · exact ⟨hz.1, hz.2.1, rfl, _, rfl, hz.2.2⟩
        · exact ⟨hz.1, hz.2.1, rfl, _, rfl, hz.2.2⟩
        · next h2 h3 h4 =>
          refine mz_ir h2 h3 h4 ?_
          exact ⟨rfl, _, rfl, hz⟩
      · exact hz.elim
    · exact hz.elim
  case lreturn =>
    unfold mz_step at hz
    unfold mx_step
    dsimp only at hz ⊢
    split at hz
    · split at hz
      · exact ⟨rfl, _, rfl, hz⟩
      · exact hz.elim
    · exact hz.elim
  case return_ =>
    unfold mz_step at hz
    unfold mx_step
    dsimp only at hz ⊢
    split at hz
    · split at hz
      · exact ⟨rfl, _, rfl, hz⟩
      · exact hz.elim
    · exact hz.elim
  all_goals exact (hz : False).elim
theorem mz_Bs (hC : ∀ m as g K X, C m as g K X → Cx m as (sh, g) (mz_up sh (rk m) K X)) (hM : ∀ m as h R R', (∀ o h, R o h → R' o h) → Cx m as h R → Cx m as h R') : ∀ (is : List mx_E) (L : mx_L) (st : List mx_v) (g : mz_S) (u : Nat × Nat), mz_B F sh rk rt C J Q X is L st g u → mx_B F Cx (mz_Ju sh J) (mz_up sh rt Q X) is L st (sh, g) u
  | [], _, _, _, _, h => h.elim
  | (_, _, _, _) :: r, _, _, _, _, h => mz_steps hC hM (fun L st g u z => mz_Bs hC hM r L st g u z) h
theorem mz_As (hC : ∀ m as g K X, C m as g K X → Cx m as (sh, g) (mz_up sh (rk m) K X)) (hM : ∀ m as h R R', (∀ o h, R o h → R' o h) → Cx m as h R → Cx m as h R') {tb : List mx_E} {pc : Nat} {L : mx_L} {st : List mx_v} {g : mz_S} {u : Nat × Nat} (h : mz_A F sh rk rt C tb Q X pc L st g u) : mx_A F Cx tb (mz_up sh rt Q X) pc L st (sh, g) u := by
  refine h (fun pc L st g u => mx_A F Cx tb (mz_up sh rt Q X) pc L st (sh, g) u) (fun J pc L st g u hJ hB => ?_)
  refine mx_A_in (J := mz_Ju sh J) (fun pc L st h u hj => ?_) (mz_Bs hC hM _ L st g u hB)
  obtain ⟨s', g'⟩ := h
  obtain ⟨h1, h2⟩ := hj
  dsimp only at h1 h2
  subst h1
  exact hJ _ _ _ _ _ h2
end MZ
/-- the methods' meaning over the shape, to a depth -/
def mz_CA (mT : Nat → Option mx_MT) (mB : Nat → List mx_E) (F1 : Nat → Option (Nat × (Nat → Int))) (sh : List mx_d) (rk : Nat → Nat) : Nat → mz_C
  | 0 => fun _ _ _ _ _ => False
  | d + 1 => fun k as g K X => match mT k with
    | some t => (match Nat.ble (mx_ent as).length (mx_ml t) with
      | true => ∃ (K0 : mz_K) (X0 : mz_X), (∀ n g, K0 n g → K n g) ∧ (∀ x g, X0 x g → X x g) ∧ mz_A (F1, mx_mt t, (mx_mc t, mx_ms t)) sh rk (rk k) (mz_CA mT mB F1 sh rk d) (mB k) K0 X0 0 (mx_loc as (mx_ml t)) [] g (0, 0)
      | false => False)
    | none => False
theorem mz_CAs {mT : Nat → Option mx_MT} {mB : Nat → List mx_E} {F1 : Nat → Option (Nat × (Nat → Int))} {sh : List mx_d} {rk : Nat → Nat} : ∀ (d k : Nat) (as : List mx_v) (g : mz_S) (K : mz_K) (X : mz_X), mz_CA mT mB F1 sh rk d k as g K X → mx_CA mT mB F1 d k as (sh, g) (mz_up sh (rk k) K X)
  | 0, _, _, _, _, _, h => h.elim
  | d + 1, k, as, g, K, X, h => by
    unfold mz_CA at h
    unfold mx_CA
    cases ht : mT k with
    | none => simp only [ht] at h
    | some t =>
      simp only [ht] at h ⊢
      cases hb : Nat.ble (mx_ent as).length (mx_ml t) with
      | false => simp only [hb] at h
      | true =>
        simp only [hb] at h ⊢
        obtain ⟨K0, X0, h1, h2, h3⟩ := h
        refine ⟨mz_up sh (rk k) K0 X0, fun o h' hu => ?_, mz_As (fun m as g K X z => mz_CAs d m as g K X z) (fun m as h R R' hR z => mx_CA_mono hR z) h3⟩
        obtain ⟨e1, e2⟩ := hu
        refine ⟨e1, ?_⟩
        match o, e2 with
        | .inl r, e2 =>
          obtain ⟨n, e3, e4⟩ := e2
          exact ⟨n, e3, h1 _ _ e4⟩
        | .inr x, e2 => exact h2 _ _ e2
theorem mz_CA_mono {mT : Nat → Option mx_MT} {mB : Nat → List mx_E} {F1 : Nat → Option (Nat × (Nat → Int))} {sh : List mx_d} {rk : Nat → Nat} {d k : Nat} {as : List mx_v} {g : mz_S} {K K' : mz_K} {X X' : mz_X} (hK : ∀ n g, K n g → K' n g) (hX : ∀ x g, X x g → X' x g) (h : mz_CA mT mB F1 sh rk d k as g K X) : mz_CA mT mB F1 sh rk d k as g K' X' := by
  match d, h with
  | d + 1, h =>
    unfold mz_CA at h ⊢
    cases ht : mT k with
    | none => simp only [ht] at h
    | some t =>
      simp only [ht] at h ⊢
      cases hb : Nat.ble (mx_ent as).length (mx_ml t) with
      | false => simp only [hb] at h
      | true =>
        simp only [hb] at h ⊢
        obtain ⟨K0, X0, h1, h2, h3⟩ := h
        exact ⟨K0, X0, fun n g z => hK n g (h1 n g z), fun x g z => hX x g (h2 x g z), h3⟩
/-- a method's body begins -/
theorem mz_enter {mT : Nat → Option mx_MT} {mB : Nat → List mx_E} {F1 : Nat → Option (Nat × (Nat → Int))} {sh : List mx_d} {rk : Nat → Nat} {d k : Nat} {as : List mx_v} {g : mz_S} {K : mz_K} {X : mz_X} {t : mx_MT} (ht : mT k = some t) (hb : Nat.ble (mx_ent as).length (mx_ml t) = true) (h : mz_A (F1, mx_mt t, (mx_mc t, mx_ms t)) sh rk (rk k) (mz_CA mT mB F1 sh rk d) (mB k) K X 0 (mx_loc as (mx_ml t)) [] g (0, 0)) : mz_CA mT mB F1 sh rk (d + 1) k as g K X := by
  unfold mz_CA
  simp only [ht, hb]
  exact ⟨K, X, fun _ _ z => z, fun _ _ z => z, h⟩
