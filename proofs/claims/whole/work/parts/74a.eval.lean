/-! the constructors: a run of the small machine over known numbers -/
abbrev mu_W : Type := List (Nat × (Nat × Int))
def mu_g : mu_W → Nat → Nat → Int
  | [], _, _ => 0
  | w :: r, a, b => if a = w.1 ∧ b = w.2.1 then w.2.2 else mu_g r a b
def mu_new (ws : mu_W) (n : Nat) : Bool := ws.all (fun w => Nat.blt w.1 n)
theorem mu_g_new {ws : mu_W} {n : Nat} (h : mu_new ws n = true) : (fun a b => if a = n then 0 else mu_g ws a b) = mu_g ws := by
  funext a b
  by_cases z : a = n
  · rw [if_pos z]
    induction ws with
    | nil => rfl
    | cons w r ih =>
      have h' := (Bool.and_eq_true _ _).mp h
      have hw : w.1 < n := Nat.blt_eq.mp h'.1
      show 0 = (if a = w.1 ∧ b = w.2.1 then w.2.2 else mu_g r a b)
      rw [if_neg (fun y => by omega)]
      exact ih h'.2
  · rw [if_neg z]
theorem mu_g_up (ws : mu_W) (q i : Nat) (v : Int) : mx_up (mu_g ws) q i v = mu_g ((q, i, v) :: ws) := rfl
abbrev mu_T : Type := Nat → (Nat × Nat) → List mx_E → List mx_E → mx_L → List mx_v → List mx_d → mu_W → Nat × Nat → Option (List mx_d × mu_W)
/-- a call -/
def mu_cl (E : mu_T) (D m : Nat) (as : List mx_v) (sh : List mx_d) (ws : mu_W) : Option (List mx_d × mu_W) := match D with
  | 0 => none
  | D + 1 => match mx_mT m with
    | some t => match Nat.ble (mx_ent as).length (mx_ml t) with
      | true => E D (mx_mc t, mx_ms t) (mx_mB m) (mx_sfx (mx_mB m) 0) (mx_loc as (mx_ml t)) [] sh ws (0, 0)
      | false => none
    | none => none
def mu_st (E : mu_T) (D : Nat) (lim : Nat × Nat) (tb : List mx_E) (e : mx_E) (r : List mx_E) (L : mx_L) (st : List mx_v) (sh : List mx_d) (ws : mu_W) (u : Nat × Nat) : Option (List mx_d × mu_W) :=
  match e.2.1 with
  | .iconst n => E D lim tb r L (mx_I n :: st) sh ws u
  | .bipush n => E D lim tb r L (mx_I n :: st) sh ws u
  | .sipush n => E D lim tb r L (mx_I n :: st) sh ws u
  | .iload_n k => match L.getD (k : Nat) none with
    | some (.inl n) => E D lim tb r L (mx_I n :: st) sh ws u
    | _ => none
  | .aload_n k => match L.getD (k : Nat) none with
    | some (.inr (.inr (.inl (some q)))) => E D lim tb r L (mx_R q :: st) sh ws u
    | _ => none
  | .aload k => match L.getD k none with
    | some (.inr (.inr (.inl (some q)))) => E D lim tb r L (mx_R q :: st) sh ws u
    | _ => none
  | .istore_n k => match st with
    | .inl n :: st => E D lim tb r (mx_st1 L (k : Nat) (mx_I n)) st sh ws u
    | _ => none
  | .iinc k n => match L.getD k none with
    | some (.inl x) => E D lim tb r (mx_st1 L k (mx_I (x + n))) st sh ws u
    | _ => none
  | .iadd => match st with
    | .inl y :: .inl x :: st => E D lim tb r L (mx_I (x + y) :: st) sh ws u
    | _ => none
  | .imul => match st with
    | .inl y :: .inl x :: st => E D lim tb r L (mx_I (x * y) :: st) sh ws u
    | _ => none
  | .dup => match st with
    | .inr (.inr (.inl (some q))) :: st => E D lim tb r L (mx_R q :: mx_R q :: st) sh ws u
    | _ => none
  | .if_icmp cd _ => match cd, st, e.2.2.2 with
    | .ge, .inl y :: .inl x :: st, t :: _ => if w32 y ≤ w32 x then E D lim tb (mx_sfx tb t) L st sh ws u else E D lim tb r L st sh ws u
    | _, _, _ => none
  | .goto _ => match e.2.2.2 with
    | t :: _ => E D lim tb (mx_sfx tb t) L st sh ws u
    | _ => none
  | .getfield _ => match e.2.2.2 with
    | ci :: k :: 3 :: _ => match Nat.beq ci 90, st with
      | false, .inr (.inr (.inl (some q))) :: st => match sh[q]? with
        | some (.inl (c, rf)) => if c = ci then (match rf.getD k none with
          | some x => E D lim tb r L (mx_R x :: st) sh ws u
          | none => none) else none
        | _ => none
      | _, _ => none
    | _ => none
  | .putfield _ => match e.2.2.2 with
    | ci :: k :: 3 :: _ => match st with
      | .inr (.inr (.inl (some x))) :: .inr (.inr (.inl (some q))) :: st => match sh[q]? with
        | some (.inl (c, rf)) => if c = ci then E D lim tb r L st (sh.set q (.inl (c, rf.set k (some x)))) ws u else none
        | _ => none
      | _ => none
    | ci :: k :: 0 :: _ => match st with
      | .inl n :: .inr (.inr (.inl (some q))) :: st => match sh[q]? with
        | some (.inl (c, _)) => if c = ci then E D lim tb r L st sh ((q, k, n) :: ws) u else none
        | _ => none
      | _ => none
    | _ => none
  | .iastore => match st with
    | .inl x :: .inl i :: .inr (.inr (.inl (some q))) :: st => match sh[q]? with
      | some (.inr (0, n)) => if 0 ≤ w32 i ∧ w32 i < (n : Int) then E D lim tb r L st sh ((q, mx_at i, x) :: ws) u else none
      | _ => none
    | _ => none
  | .arraylength => match st with
    | .inr (.inr (.inl (some q))) :: st => match sh[q]? with
      | some (.inr (_, n)) => E D lim tb r L (mx_I n :: st) sh ws u
      | _ => none
    | _ => none
  | .newarray _ => match st, e.2.2.2 with
    | .inl n :: st, t :: _ => if (0 ≤ w32 n ∧ w32 n ≤ 100000 ∧ u.1 + 1 ≤ lim.1 ∧ u.2 + mx_at n ≤ lim.2) ∧ mu_new ws sh.length = true then E D lim tb r L (mx_R sh.length :: st) (sh ++ [.inr (t, mx_at n)]) ws (u.1 + 1, u.2 + mx_at n) else none
    | _, _ => none
  | .new _ => match e.2.2.2 with
    | 0 :: ci :: ns :: _ => if (u.1 + 1 ≤ lim.1 ∧ u.2 + ns ≤ lim.2) ∧ mu_new ws sh.length = true then E D lim tb r L (mx_R sh.length :: st) (sh ++ [.inl (ci, List.replicate ns none)]) ws (u.1 + 1, u.2 + ns) else none
    | _ => none
  | .invokespecial _ => match e.2.2.2 with
    | 0 :: m :: n :: _ => match mx_tk n [] st with
      | some (as, .inr (.inr (.inl (some q))) :: rest) => match Nat.ble (mx_wt rest) 8, mu_cl E D m (mx_R q :: as) sh ws with
        | true, some (sh2, ws2) => E D lim tb r L rest sh2 ws2 u
        | _, _ => none
      | _ => none
    | 5 :: m :: n :: mc :: ms :: _ => match mx_tk n [] st with
      | some (as, .inr (.inr (.inl (some q))) :: rest) => match Nat.ble (mx_wt rest) 8, mu_cl E D m (mx_R q :: as) sh ws with
        | true, some (sh2, ws2) => if u.1 + mc ≤ lim.1 ∧ u.2 + ms ≤ lim.2 then E D lim tb r L rest sh2 ws2 (u.1 + mc, u.2 + ms) else none
        | _, _ => none
      | _ => none
    | 1 :: _ => match st with
      | .inr (.inr (.inl (some _))) :: st => match Nat.ble (mx_wt st) 8 with
        | true => E D lim tb r L st sh ws u
        | false => none
      | _ => none
    | _ => none
  | .invokestatic _ => match e.2.2.2 with
    | 0 :: m :: n :: _ => match mx_tk n [] st with
      | some (as, rest) => match Nat.ble (mx_wt rest) 8, mu_cl E D m as sh ws with
        | true, some (sh2, ws2) => E D lim tb r L rest sh2 ws2 u
        | _, _ => none
      | none => none
    | _ => none
  | .return_ => match st with
    | [] => some (sh, ws)
    | _ => none
  | _ => none
def mu_ev : Nat → mu_T
  | 0 => fun _ _ _ _ _ _ _ _ _ => none
  | n + 1 => fun D lim tb is L st sh ws u => match is with
    | [] => none
    | e :: r => mu_st (mu_ev n) D lim tb e r L st sh ws u
/-- what a run is worth -/
def mu_ok (F1 : Nat → Option (Nat × (Nat → Int))) (E : mu_T) : Prop := ∀ (D : Nat) (lim : Nat × Nat) (tb is : List mx_E) (L : mx_L) (st : List mx_v) (sh : List mx_d) (ws : mu_W) (u : Nat × Nat) (sh2 : List mx_d) (ws2 : mu_W), E D lim tb is L st sh ws u = some (sh2, ws2) → ∀ (mt : List (Nat × Nat × Nat × Nat × Nat)) (Q : mx_O → mx_H → Prop), Q (.inl none) (sh2, mu_g ws2) → mx_B (F1, mt, lim) (mx_CA mx_mT mx_mB F1 D) (mx_A (F1, mt, lim) (mx_CA mx_mT mx_mB F1 D) tb Q) Q is L st (sh, mu_g ws) u
theorem mu_cl_ok {F1 : Nat → Option (Nat × (Nat → Int))} {E : mu_T} (hE : mu_ok F1 E) {D m : Nat} {as : List mx_v} {sh sh2 : List mx_d} {ws ws2 : mu_W} (h : mu_cl E D m as sh ws = some (sh2, ws2)) {Q : mx_O → mx_H → Prop} (k : Q (.inl none) (sh2, mu_g ws2)) : mx_CA mx_mT mx_mB F1 D m as (sh, mu_g ws) Q := by
  unfold mu_cl at h
  match D, h with
  | D + 1, h =>
    dsimp only at h
    unfold mx_CA
    cases ht : mx_mT m with
    | none => rw [ht] at h; cases h
    | some t =>
      simp only [ht] at h ⊢
      cases hb : Nat.ble (mx_ent as).length (mx_ml t) with
      | false => rw [hb] at h; cases h
      | true =>
        simp only [hb] at h ⊢
        exact ⟨Q, fun _ _ z => z, mx_A_in (fun _ _ _ _ _ z => z) (hE _ _ _ _ _ _ _ _ _ _ _ h _ Q k)⟩
