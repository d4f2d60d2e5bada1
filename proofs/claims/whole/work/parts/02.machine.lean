/-! THE SMALL MACHINE: a pure picture of the methods' bytecode, as a transformer of postconditions. Numbers are Int, laid into the machine's words by ofInt; a wrap stands only where a number is looked at. -/
/-- values: an int, a long, null or a cell, a thing outside the cells (script, static rows, texts) -/
abbrev mx_v : Type := Int ⊕ (Int ⊕ (Option Nat ⊕ Nat))
abbrev mx_I (n : Int) : mx_v := .inl n
abbrev mx_J (n : Int) : mx_v := .inr (.inl n)
abbrev mx_Z : mx_v := .inr (.inr (.inl none))
abbrev mx_R (q : Nat) : mx_v := .inr (.inr (.inl (some q)))
abbrev mx_S (k : Nat) : mx_v := .inr (.inr (.inr k))
/-- a cell's kind: an object (its class, its reference slots), or an array (0 int, 1 long, 2 boolean; its length) -/
abbrev mx_d : Type := (Nat × List (Option Nat)) ⊕ (Nat × Nat)
/-- the cells' kinds, and what numbers they hold, by cell and place -/
abbrev mx_H : Type := List mx_d × (Nat → Nat → Int)
abbrev mx_E : Type := Nat × (Instr × (Nat × List Nat))
abbrev mx_L : Type := List (Option mx_v)
/-- an outcome: a value or none, or a thrown exception's number -/
abbrev mx_O : Type := Option mx_v ⊕ Nat
abbrev mx_C : Type := Nat → List mx_v → mx_H → (mx_O → mx_H → Prop) → Prop
def w32 (n : Int) : Int := (Int32.ofInt n).toInt
def w64 (n : Int) : Int := (Int64.ofInt n).toInt
def mx_up (f : Nat → Nat → Int) (q i : Nat) (n : Int) : Nat → Nat → Int := fun a b => if a = q ∧ b = i then n else f a b
def mx_in (i : Int) (n : Nat) : Prop := 0 ≤ w32 i ∧ w32 i < (n : Int)
def mx_at (i : Int) : Nat := (w32 i).toNat
def mx_iand (x y : Int) : Int := (Int32.ofInt x &&& Int32.ofInt y).toInt
def mx_ior (x y : Int) : Int := (Int32.ofInt x ||| Int32.ofInt y).toInt
def mx_ixor (x y : Int) : Int := (Int32.ofInt x ^^^ Int32.ofInt y).toInt
def mx_idiv (x y : Int) : Int := (Int32.ofInt x / Int32.ofInt y).toInt
def mx_irem (x y : Int) : Int := (Int32.ofInt x - Int32.ofInt x / Int32.ofInt y * Int32.ofInt y).toInt
def mx_ishl (x y : Int) : Int := (Int32.ofInt x <<< (Int32.ofInt y &&& 31)).toInt
def mx_ishr (x y : Int) : Int := (Int32.ofInt x >>> (Int32.ofInt y &&& 31)).toInt
def mx_iushr (x y : Int) : Int := ((Int32.ofInt x).toUInt32 >>> ((Int32.ofInt y).toUInt32 &&& Int32.toUInt32 31)).toInt32.toInt
def mx_land (x y : Int) : Int := (Int64.ofInt x &&& Int64.ofInt y).toInt
def mx_lor (x y : Int) : Int := (Int64.ofInt x ||| Int64.ofInt y).toInt
def mx_lxor (x y : Int) : Int := (Int64.ofInt x ^^^ Int64.ofInt y).toInt
def mx_ldiv (x y : Int) : Int := (Int64.ofInt x / Int64.ofInt y).toInt
def mx_lrem (x y : Int) : Int := (Int64.ofInt x - Int64.ofInt x / Int64.ofInt y * Int64.ofInt y).toInt
def mx_lshl (x y : Int) : Int := (Int64.ofInt x <<< ((Int32.ofInt y).toInt64 &&& 63)).toInt
def mx_lshr (x y : Int) : Int := (Int64.ofInt x >>> ((Int32.ofInt y).toInt64 &&& 63)).toInt
def mx_lushr (x y : Int) : Int := ((Int64.ofInt x).toUInt64 >>> ((Int32.ofInt y).toInt64.toUInt64 &&& Int64.toUInt64 63)).toInt64.toInt
def mx_i2b (x : Int) : Int := (Int32.ofInt x).toInt8.toInt32.toInt
def mx_i2s (x : Int) : Int := (Int32.ofInt x).toInt16.toInt32.toInt
def mx_i2c (x : Int) : Int := ((Int32.ofInt x).toUInt32 % 65536).toInt32.toInt
def mx_lcmp (x y : Int) : Int := if w64 y < w64 x then 1 else if w64 x = w64 y then 0 else -1
/-- a comparison of two ints -/
def mx_cmp (cd : ClassFile.Cond) (x y : Int) : Prop := match cd with
  | .eq => w32 x = w32 y
  | .ne => ¬ w32 x = w32 y
  | .lt => w32 x < w32 y
  | .ge => w32 y ≤ w32 x
  | .gt => w32 y < w32 x
  | .le => w32 x ≤ w32 y
def mx_cat (v : mx_v) : Nat := match v with
  | .inr (.inl _) => 2
  | _ => 1
def mx_wt : List mx_v → Nat
  | [] => 0
  | v :: r => mx_cat v + mx_wt r
/-- a local that holds a long just below place i goes -/
def mx_clr (L : mx_L) (i : Nat) : mx_L := match i with
  | 0 => L
  | j + 1 => match L.getD j none with
    | some (.inr (.inl _)) => L.set j none
    | _ => L
def mx_st1 (L : mx_L) (i : Nat) (v : mx_v) : mx_L := (mx_clr L i).set i (some v)
def mx_st2 (L : mx_L) (i : Nat) (v : mx_v) : mx_L := ((mx_clr L i).set i (some v)).set (i + 1) none
/-- the first row of a table of handlers that covers pc and takes exception x: (from, to, exception, the handler's local, where it goes on) -/
def mx_hnd (ht : List (Nat × Nat × Nat × Nat × Nat)) (pc x : Nat) : Option (Nat × Nat) := match ht with
  | [] => none
  | r :: t => if r.1 ≤ pc ∧ pc < r.2.1 ∧ r.2.2.1 = x then some (r.2.2.2.1, r.2.2.2.2) else mx_hnd t pc x
/-- what is fixed while a method runs: the things outside the cells (length, ints), its handlers, how many cells and slots it may make -/
abbrev mx_F : Type := (Nat → Option (Nat × (Nat → Int))) × (List (Nat × Nat × Nat × Nat × Nat) × (Nat × Nat))
/-- behind a call or a throw -/
def mx_aft (F : mx_F) (pc : Nat) (L : mx_L) (u : Nat × Nat) (K : Option mx_v → mx_H → Prop) (J : Nat → mx_L → List mx_v → mx_H → Nat × Nat → Prop) (Q : mx_O → mx_H → Prop) (o : mx_O) (h : mx_H) : Prop := match o with
  | .inl r => K r h
  | .inr x => match mx_hnd F.2.1 pc x with
    | some (i, t) => J t ((mx_clr L i).set i none) [] h u
    | none => Q (.inr x) h
/-- n values off the stack, in the order of a call -/
def mx_tk : Nat → List mx_v → List mx_v → Option (List mx_v × List mx_v)
  | 0, acc, st => some (acc, st)
  | n + 1, acc, v :: st => mx_tk n (v :: acc) st
  | _ + 1, _, [] => none
/-- a call of m -/
def mx_go (F : mx_F) (C : mx_C) (pc : Nat) (L : mx_L) (K : mx_L → List mx_v → mx_H → Nat × Nat → Prop) (J : Nat → mx_L → List mx_v → mx_H → Nat × Nat → Prop) (Q : mx_O → mx_H → Prop) (m : Nat) (as rest : List mx_v) (h : mx_H) (u' : Nat × Nat) : Prop := match Nat.ble (mx_wt rest) 8 with
  | true => C m as h (mx_aft F pc L u' (fun r h => K L (r.toList ++ rest) h u') J Q)
  | false => False
def mx_tag (t : Nat) (n : Int) : mx_v := match t with
  | 1 => mx_J n
  | _ => mx_I n
/-- the texts' bytes -/
def mx_tx : List (List Int) := [
  [102, 101, 101, 32, 100, 105, 101, 115, 32, 98, 111, 117, 110, 100, 32, 114, 97, 110, 107, 32, 98, 101, 97, 114, 115, 32, 108, 111, 115, 115, 32, 98, 97, 110, 32, 118, 111, 105, 100, 32, 110, 32, 99, 111, 105, 110, 32, 119, 97, 121, 32, 115, 101, 97, 115, 111, 110, 115, 32, 107, 105, 110, 32, 100, 97, 121, 32, 116, 105, 109, 101, 32, 102, 114, 111, 109, 32, 116, 111, 32, 110, 101, 97, 114, 32, 102, 97, 114, 32, 116, 101, 108, 108, 101, 114, 32, 112, 97, 121, 101, 114, 32, 117, 110, 108, 101, 115, 115, 32, 111, 114, 32, 97, 110, 100, 32, 110, 111, 116, 32],
  [59, 58, 60, 62, 61, 43, 45, 42, 47, 37, 40, 41, 91, 93],
  [102, 101, 101],
  [100, 105, 101, 115],
  [98, 111, 117, 110, 100],
  [114, 97, 110, 107],
  [98, 101, 97, 114, 115],
  [108, 111, 115, 115],
  [98, 97, 110],
  [118, 111, 105, 100],
  [107, 105, 110],
  [110, 101, 97, 114],
  [102, 97, 114],
  [116, 101, 108, 108, 101, 114],
  [112, 97, 121, 101, 114],
  [110],
  [99, 111, 105, 110],
  [119, 97, 121],
  [115, 101, 97, 115, 111, 110, 115],
  [100, 97, 121],
  [116, 105, 109, 101],
  [102, 114, 111, 109],
  [116, 111],
  [117, 110, 108, 101, 115, 115],
  [110, 111, 116],
  [97, 110, 100],
  [111, 114]]
/-- a text's bytes, as a row outside the cells: text k is thing 10 + k, its bytes are thing 100 + k -/
def mx_sB (q : Nat) : Option (Nat × (Nat → Int)) := match Nat.ble 100 q && Nat.ble q 126 with
  | true => some ((mx_tx.getD (q - 100) []).length, fun j => (mx_tx.getD (q - 100) []).getD j 0)
  | false => none
def mx_cpy (g : Nat → Nat → Int) (a b sp dp n : Nat) : Nat → Nat → Int := fun q k => if q = b ∧ dp ≤ k ∧ k < dp + n then g a (sp + (k - dp)) else g q k
/-- one instruction: K goes on behind it, J goes to another place, Q is the method's end -/
def mx_step (F : mx_F) (C : mx_C) (e : mx_E) (L : mx_L) (st : List mx_v) (h : mx_H) (u : Nat × Nat) (K : mx_L → List mx_v → mx_H → Nat × Nat → Prop) (J : Nat → mx_L → List mx_v → mx_H → Nat × Nat → Prop) (Q : mx_O → mx_H → Prop) : Prop :=
  match e.2.1 with
  | .iconst n => K L (mx_I n :: st) h u
  | .bipush n => K L (mx_I n :: st) h u
  | .sipush n => K L (mx_I n :: st) h u
  | .lconst n => K L (mx_J ((n : Nat) : Int) :: st) h u
  | .iload_n k => match L.getD (k : Nat) none with
    | some (.inl n) => K L (mx_I n :: st) h u
    | _ => False
  | .iload k => match L.getD k none with
    | some (.inl n) => K L (mx_I n :: st) h u
    | _ => False
  | .lload_n k => match L.getD (k : Nat) none with
    | some (.inr (.inl n)) => K L (mx_J n :: st) h u
    | _ => False
  | .lload k => match L.getD k none with
    | some (.inr (.inl n)) => K L (mx_J n :: st) h u
    | _ => False
  | .aload_n k => match L.getD (k : Nat) none with
    | some (.inr (.inr (.inl (some q)))) => K L (mx_R q :: st) h u
    | some (.inr (.inr (.inr q))) => K L (mx_S q :: st) h u
    | _ => False
  | .aload k => match L.getD k none with
    | some (.inr (.inr (.inl (some q)))) => K L (mx_R q :: st) h u
    | some (.inr (.inr (.inr q))) => K L (mx_S q :: st) h u
    | _ => False
  | .istore_n k => match st with
    | .inl n :: st => K (mx_st1 L (k : Nat) (mx_I n)) st h u
    | _ => False
  | .istore k => match st with
    | .inl n :: st => K (mx_st1 L k (mx_I n)) st h u
    | _ => False
  | .lstore_n k => match st with
    | .inr (.inl n) :: st => K (mx_st2 L (k : Nat) (mx_J n)) st h u
    | _ => False
  | .lstore k => match st with
    | .inr (.inl n) :: st => K (mx_st2 L k (mx_J n)) st h u
    | _ => False
  | .astore_n k => match st with
    | .inr (.inr (.inl (some q))) :: st => K (mx_st1 L (k : Nat) (mx_R q)) st h u
    | _ => False
  | .astore k => match st with
    | .inr (.inr (.inl (some q))) :: st => K (mx_st1 L k (mx_R q)) st h u
    | _ => False
  | .iinc k n => match L.getD k none with
    | some (.inl x) => K (mx_st1 L k (mx_I (x + n))) st h u
    | _ => False
  | .iadd => match st with
    | .inl y :: .inl x :: st => K L (mx_I (x + y) :: st) h u
    | _ => False
  | .isub => match st with
    | .inl y :: .inl x :: st => K L (mx_I (x - y) :: st) h u
    | _ => False
  | .imul => match st with
    | .inl y :: .inl x :: st => K L (mx_I (x * y) :: st) h u
    | _ => False
  | .ineg => match st with
    | .inl x :: st => K L (mx_I (-x) :: st) h u
    | _ => False
  | .iand => match st with
    | .inl y :: .inl x :: st => K L (mx_I (mx_iand x y) :: st) h u
    | _ => False
  | .ior => match st with
    | .inl y :: .inl x :: st => K L (mx_I (mx_ior x y) :: st) h u
    | _ => False
  | .ixor => match st with
    | .inl y :: .inl x :: st => K L (mx_I (mx_ixor x y) :: st) h u
    | _ => False
  | .idiv => match st with
    | .inl y :: .inl x :: st => ¬ w32 y = 0 ∧ K L (mx_I (mx_idiv x y) :: st) h u
    | _ => False
  | .irem => match st with
    | .inl y :: .inl x :: st => ¬ w32 y = 0 ∧ K L (mx_I (mx_irem x y) :: st) h u
    | _ => False
  | .ishl => match st with
    | .inl y :: .inl x :: st => K L (mx_I (mx_ishl x y) :: st) h u
    | _ => False
  | .ishr => match st with
    | .inl y :: .inl x :: st => K L (mx_I (mx_ishr x y) :: st) h u
    | _ => False
  | .iushr => match st with
    | .inl y :: .inl x :: st => K L (mx_I (mx_iushr x y) :: st) h u
    | _ => False
  | .ladd => match st with
    | .inr (.inl y) :: .inr (.inl x) :: st => K L (mx_J (x + y) :: st) h u
    | _ => False
  | .lsub => match st with
    | .inr (.inl y) :: .inr (.inl x) :: st => K L (mx_J (x - y) :: st) h u
    | _ => False
  | .lmul => match st with
    | .inr (.inl y) :: .inr (.inl x) :: st => K L (mx_J (x * y) :: st) h u
    | _ => False
  | .lneg => match st with
    | .inr (.inl x) :: st => K L (mx_J (-x) :: st) h u
    | _ => False
  | .land => match st with
    | .inr (.inl y) :: .inr (.inl x) :: st => K L (mx_J (mx_land x y) :: st) h u
    | _ => False
  | .lor => match st with
    | .inr (.inl y) :: .inr (.inl x) :: st => K L (mx_J (mx_lor x y) :: st) h u
    | _ => False
  | .lxor => match st with
    | .inr (.inl y) :: .inr (.inl x) :: st => K L (mx_J (mx_lxor x y) :: st) h u
    | _ => False
  | .ldiv => match st with
    | .inr (.inl y) :: .inr (.inl x) :: st => ¬ w64 y = 0 ∧ K L (mx_J (mx_ldiv x y) :: st) h u
    | _ => False
  | .lrem => match st with
    | .inr (.inl y) :: .inr (.inl x) :: st => ¬ w64 y = 0 ∧ K L (mx_J (mx_lrem x y) :: st) h u
    | _ => False
  | .lshl => match st with
    | .inl y :: .inr (.inl x) :: st => K L (mx_J (mx_lshl x y) :: st) h u
    | _ => False
  | .lshr => match st with
    | .inl y :: .inr (.inl x) :: st => K L (mx_J (mx_lshr x y) :: st) h u
    | _ => False
  | .lushr => match st with
    | .inl y :: .inr (.inl x) :: st => K L (mx_J (mx_lushr x y) :: st) h u
    | _ => False
  | .i2l => match st with
    | .inl x :: st => K L (mx_J (w32 x) :: st) h u
    | _ => False
  | .l2i => match st with
    | .inr (.inl x) :: st => K L (mx_I x :: st) h u
    | _ => False
  | .i2b => match st with
    | .inl x :: st => K L (mx_I (mx_i2b x) :: st) h u
    | _ => False
  | .i2s => match st with
    | .inl x :: st => K L (mx_I (mx_i2s x) :: st) h u
    | _ => False
  | .i2c => match st with
    | .inl x :: st => K L (mx_I (mx_i2c x) :: st) h u
    | _ => False
  | .lcmp => match st with
    | .inr (.inl y) :: .inr (.inl x) :: st => K L (mx_I (mx_lcmp x y) :: st) h u
    | _ => False
  | .dup => match st with
    | .inr (.inl _) :: _ => False
    | v :: st => K L (v :: v :: st) h u
    | _ => False
  | .dup2 => match st with
    | .inr (.inl n) :: st => K L (mx_J n :: mx_J n :: st) h u
    | _ :: .inr (.inl _) :: _ => False
    | v :: w :: st => K L (v :: w :: v :: w :: st) h u
    | _ => False
  | .pop => match st with
    | .inr (.inl _) :: _ => False
    | _ :: st => K L st h u
    | _ => False
  | .pop2 => match st with
    | .inr (.inl _) :: st => K L st h u
    | _ => False
  | .ifCond cd _ => match st, e.2.2.2 with
    | .inl x :: st, t :: _ => (mx_cmp cd x 0 → J t L st h u) ∧ (¬ mx_cmp cd x 0 → K L st h u)
    | _, _ => False
  | .if_icmp cd _ => match st, e.2.2.2 with
    | .inl y :: .inl x :: st, t :: _ => (mx_cmp cd x y → J t L st h u) ∧ (¬ mx_cmp cd x y → K L st h u)
    | _, _ => False
  | .goto _ => match e.2.2.2 with
    | t :: _ => J t L st h u
    | _ => False
  | .tableswitch _ lo hi _ => match st, e.2.2.2 with
    | .inl x :: st, t :: ts => (¬ (lo ≤ w32 x ∧ w32 x ≤ hi) → J t L st h u) ∧ (lo ≤ w32 x ∧ w32 x ≤ hi → J (ts.getD (w32 x - lo).toNat 0) L st h u)
    | _, _ => False
  | .lookupswitch _ ps => match st, e.2.2.2 with
    | .inl x :: st, t :: ts => (¬ (∃ q ∈ ps.toList, q.1 = w32 x) → J t L st h u) ∧ ∀ (k : Nat) (q : Int × Int), ps.toList[k]? = some q → q.1 = w32 x → J (ts.getD k 0) L st h u
    | _, _ => False
  | .getfield _ => match e.2.2.2 with
    | 90 :: f :: _ => match st with
      | .inr (.inr (.inr q)) :: st => match Nat.ble 10 q && Nat.ble q 36 with
        | true => (match f with
          | 0 => K L (mx_S (q + 90) :: st) h u
          | _ => K L (mx_I 0 :: st) h u)
        | false => False
      | _ => False
    | ci :: k :: t :: _ => match st with
      | .inr (.inr (.inl (some q))) :: st => match h.1[q]? with
        | some (.inl (c, rf)) => c = ci ∧ (match t with
          | 3 => match rf.getD k none with
            | some r => K L (mx_R r :: st) h u
            | none => False
          | t => K L (mx_tag t (h.2 q k) :: st) h u)
        | _ => False
      | _ => False
    | _ => False
  | .putfield _ => match e.2.2.2 with
    | ci :: k :: 3 :: _ => match st with
      | .inr (.inr (.inl (some r))) :: .inr (.inr (.inl (some q))) :: st => match h.1[q]? with
        | some (.inl (c, rf)) => c = ci ∧ K L st (h.1.set q (.inl (c, rf.set k (some r))), h.2) u
        | _ => False
      | _ => False
    | ci :: k :: 1 :: _ => match st with
      | .inr (.inl n) :: .inr (.inr (.inl (some q))) :: st => match h.1[q]? with
        | some (.inl (c, _)) => c = ci ∧ K L st (h.1, mx_up h.2 q k n) u
        | _ => False
      | _ => False
    | ci :: k :: 2 :: _ => match st with
      | .inl n :: .inr (.inr (.inl (some q))) :: st => match h.1[q]? with
        | some (.inl (c, _)) => c = ci ∧ (w32 n = 0 ∨ w32 n = 1) ∧ K L st (h.1, mx_up h.2 q k n) u
        | _ => False
      | _ => False
    | ci :: k :: _ :: _ => match st with
      | .inl n :: .inr (.inr (.inl (some q))) :: st => match h.1[q]? with
        | some (.inl (c, _)) => c = ci ∧ K L st (h.1, mx_up h.2 q k n) u
        | _ => False
      | _ => False
    | _ => False
  | .iaload => match st with
    | .inl i :: .inr (.inr (.inl (some q))) :: st => match h.1[q]? with
      | some (.inr (0, n)) => mx_in i n ∧ K L (mx_I (h.2 q (mx_at i)) :: st) h u
      | _ => False
    | .inl i :: .inr (.inr (.inr q)) :: st => match F.1 q with
      | some (n, f) => mx_in i n ∧ K L (mx_I (f (mx_at i)) :: st) h u
      | none => False
    | _ => False
  | .baload => match st with
    | .inl i :: .inr (.inr (.inl (some q))) :: st => match h.1[q]? with
      | some (.inr (2, n)) => mx_in i n ∧ K L (mx_I (h.2 q (mx_at i)) :: st) h u
      | _ => False
    | .inl i :: .inr (.inr (.inr q)) :: st => match mx_sB q with
      | some (n, f) => mx_in i n ∧ K L (mx_I (f (mx_at i)) :: st) h u
      | none => False
    | _ => False
  | .laload => match st with
    | .inl i :: .inr (.inr (.inl (some q))) :: st => match h.1[q]? with
      | some (.inr (1, n)) => mx_in i n ∧ K L (mx_J (h.2 q (mx_at i)) :: st) h u
      | _ => False
    | _ => False
  | .iastore => match st with
    | .inl x :: .inl i :: .inr (.inr (.inl (some q))) :: st => match h.1[q]? with
      | some (.inr (0, n)) => mx_in i n ∧ K L st (h.1, mx_up h.2 q (mx_at i) x) u
      | _ => False
    | _ => False
  | .bastore => match st with
    | .inl x :: .inl i :: .inr (.inr (.inl (some q))) :: st => match h.1[q]? with
      | some (.inr (2, n)) => mx_in i n ∧ (w32 x = 0 ∨ w32 x = 1) ∧ K L st (h.1, mx_up h.2 q (mx_at i) x) u
      | _ => False
    | _ => False
  | .lastore => match st with
    | .inr (.inl x) :: .inl i :: .inr (.inr (.inl (some q))) :: st => match h.1[q]? with
      | some (.inr (1, n)) => mx_in i n ∧ K L st (h.1, mx_up h.2 q (mx_at i) x) u
      | _ => False
    | _ => False
  | .arraylength => match st with
    | .inr (.inr (.inl (some q))) :: st => match h.1[q]? with
      | some (.inr (_, n)) => K L (mx_I n :: st) h u
      | _ => False
    | .inr (.inr (.inr q)) :: st => match F.1 q with
      | some (n, _) => K L (mx_I n :: st) h u
      | none => match mx_sB q with
        | some (n, _) => K L (mx_I n :: st) h u
        | none => False
    | _ => False
  | .newarray _ => match st, e.2.2.2 with
    | .inl n :: st, t :: _ => 0 ≤ w32 n ∧ w32 n ≤ 100000 ∧ u.1 + 1 ≤ F.2.2.1 ∧ u.2 + mx_at n ≤ F.2.2.2 ∧
        K L (mx_R h.1.length :: st) (h.1 ++ [.inr (t, mx_at n)], fun a b => if a = h.1.length then 0 else h.2 a b) (u.1 + 1, u.2 + mx_at n)
    | _, _ => False
  | .new _ => match e.2.2.2 with
    | 0 :: ci :: ns :: _ => u.1 + 1 ≤ F.2.2.1 ∧ u.2 + ns ≤ F.2.2.2 ∧
        K L (mx_R h.1.length :: st) (h.1 ++ [.inl (ci, List.replicate ns none)], fun a b => if a = h.1.length then 0 else h.2 a b) (u.1 + 1, u.2 + ns)
    | 1 :: x :: _ => F.2.1 = [] ∧ u.1 + 1 ≤ F.2.2.1 ∧ u.2 + 6 ≤ F.2.2.2 ∧ mx_wt st ≤ 8 ∧ Q (.inr x) h
    | _ => False
  | .ldc _ => match e.2.2.2 with
    | 0 :: s :: n :: _ => K L (mx_I (if s = 0 then (n : Int) else -(n : Int)) :: st) h u
    | 1 :: k :: _ => K L (mx_S k :: st) h u
    | _ => False
  | .ldc_w _ => match e.2.2.2 with
    | 0 :: s :: n :: _ => K L (mx_I (if s = 0 then (n : Int) else -(n : Int)) :: st) h u
    | 1 :: k :: _ => K L (mx_S k :: st) h u
    | _ => False
  | .ldc2_w _ => match e.2.2.2 with
    | s :: n :: _ => K L (mx_J (if s = 0 then (n : Int) else -(n : Int)) :: st) h u
    | _ => False
  | .getstatic _ => match e.2.2.2 with
    | 50 :: _ => K L (mx_I 1 :: st) h u
    | 51 :: _ => K L (mx_Z :: st) h u ∧ K L (mx_S 200 :: st) h u
    | k :: _ => K L (mx_S k :: st) h u
    | _ => False
  | .invokespecial _ => match e.2.2.2 with
    | 0 :: m :: n :: _ => match mx_tk n [] st with
      | some (as, .inr (.inr (.inl (some q))) :: rest) => mx_go F C e.1 L K J Q m (mx_R q :: as) rest h u
      | _ => False
    | 5 :: m :: n :: mc :: ms :: _ => match mx_tk n [] st with
      | some (as, .inr (.inr (.inl (some q))) :: rest) => u.1 + mc ≤ F.2.2.1 ∧ u.2 + ms ≤ F.2.2.2 ∧ mx_go F C e.1 L K J Q m (mx_R q :: as) rest h (u.1 + mc, u.2 + ms)
      | _ => False
    | 1 :: _ => match st with
      | .inr (.inr (.inl (some _))) :: st => match Nat.ble (mx_wt st) 8 with
        | true => K L st h u
        | false => False
      | _ => False
    | _ => False
  | .invokestatic _ => match e.2.2.2 with
    | 0 :: m :: n :: _ => match mx_tk n [] st with
      | some (as, rest) => mx_go F C e.1 L K J Q m as rest h u
      | none => False
    | 5 :: m :: n :: mc :: ms :: _ => match mx_tk n [] st with
      | some (as, rest) => u.1 + mc ≤ F.2.2.1 ∧ u.2 + ms ≤ F.2.2.2 ∧ mx_go F C e.1 L K J Q m as rest h (u.1 + mc, u.2 + ms)
      | none => False
    | 8 :: t :: _ => match st with
      | .inl n :: .inl dp :: .inr (.inr (.inl (some b))) :: .inl sp :: .inr (.inr (.inl (some a))) :: st => match h.1[a]?, h.1[b]? with
        | some (.inr (ta, na)), some (.inr (tb, nb)) => ta = t ∧ tb = t ∧ 0 ≤ w32 sp ∧ 0 ≤ w32 dp ∧ 0 ≤ w32 n ∧ w32 sp + w32 n ≤ (na : Int) ∧ w32 dp + w32 n ≤ (nb : Int) ∧ mx_wt st ≤ 8 ∧ K L st (h.1, mx_cpy h.2 a b (mx_at sp) (mx_at dp) (mx_at n)) u
        | _, _ => False
      | _ => False
    | _ => False
  | .invokevirtual _ => match e.2.2.2 with
    | 0 :: m :: n :: ci :: _ => match mx_tk n [] st with
      | some (as, .inr (.inr (.inl (some q))) :: rest) => match h.1[q]? with
        | some (.inl (c, _)) => c = ci ∧ mx_go F C e.1 L K J Q m (mx_R q :: as) rest h u
        | _ => False
      | _ => False
    | 5 :: m :: n :: ci :: mc :: ms :: _ => match mx_tk n [] st with
      | some (as, .inr (.inr (.inl (some q))) :: rest) => match h.1[q]? with
        | some (.inl (c, _)) => c = ci ∧ u.1 + mc ≤ F.2.2.1 ∧ u.2 + ms ≤ F.2.2.2 ∧ mx_go F C e.1 L K J Q m (mx_R q :: as) rest h (u.1 + mc, u.2 + ms)
        | _ => False
      | _ => False
    | 7 :: m :: n :: _ => match mx_tk n [] st with
      | some (as, .inr (.inr (.inr q)) :: rest) => (match Nat.ble 10 q && Nat.ble q 36 with
        | true => mx_go F C e.1 L K J Q m (mx_S q :: as) rest h u
        | false => False)
      | _ => False
    | _ => False
  | .ireturn => match st with
    | [.inl n] => match e.2.2.2 with
      | 2 :: _ => (w32 n = 0 ∨ w32 n = 1) ∧ Q (.inl (some (mx_I n))) h
      | 3 :: _ => 0 ≤ w32 n ∧ w32 n ≤ 65535 ∧ Q (.inl (some (mx_I n))) h
      | 4 :: _ => -128 ≤ w32 n ∧ w32 n ≤ 127 ∧ Q (.inl (some (mx_I n))) h
      | _ => Q (.inl (some (mx_I n))) h
    | _ => False
  | .lreturn => match st with
    | [.inr (.inl n)] => Q (.inl (some (mx_J n))) h
    | _ => False
  | .return_ => match st with
    | [] => Q (.inl none) h
    | _ => False
  | _ => False
/-- a stretch of instructions, one behind the other -/
def mx_B (F : mx_F) (C : mx_C) (J : Nat → mx_L → List mx_v → mx_H → Nat × Nat → Prop) (Q : mx_O → mx_H → Prop) : List mx_E → mx_L → List mx_v → mx_H → Nat × Nat → Prop
  | [], _, _, _, _ => False
  | e :: r, L, st, h, u => mx_step F C e L st h u (fun L st h u => mx_B F C J Q r L st h u) J Q
/-- a method's rows from pc on -/
def mx_sfx (tb : List mx_E) (pc : Nat) : List mx_E := match tb with
  | [] => []
  | e :: r => if e.1 = pc then e :: r else mx_sfx r pc
/-- n jumps at most -/
def mx_W (F : mx_F) (C : mx_C) (tb : List mx_E) (Q : mx_O → mx_H → Prop) : Nat → Nat → mx_L → List mx_v → mx_H → Nat × Nat → Prop
  | 0, _, _, _, _, _ => False
  | n + 1, pc, L, st, h, u => mx_B F C (fun pc L st h u => mx_W F C tb Q n pc L st h u) Q (mx_sfx tb pc) L st h u
/-- the locals at a method's entry -/
def mx_ent : List mx_v → mx_L
  | [] => []
  | .inr (.inl n) :: r => some (mx_J n) :: none :: mx_ent r
  | v :: r => some v :: mx_ent r
