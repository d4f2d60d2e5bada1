/-! lags, as they are measured -/
def lset (l : Nat → Int) (i : Nat) (v : Int) : Nat → Int := fun j => if j = i then v else l j
theorem lset_s {l : Nat → Int} {i : Nat} {v : Int} : lset l i v i = v := if_pos rfl
theorem lset_n {l : Nat → Int} {i j : Nat} {v : Int} (h : j ≠ i) : lset l i v j = l j := if_neg h
abbrev fwP (l : Nat → Int) (fr b to : Nat) : Prop := ¬ l (fr * 8 + b) = -1 ∧ ¬ l (b * 8 + to) = -1 ∧ (l (fr * 8 + to) = -1 ∨ l (fr * 8 + b) + l (b * 8 + to) < l (fr * 8 + to))
def fwI (l : Nat → Int) (fr b to : Nat) : Nat → Int := if fwP l fr b to then lset l (fr * 8 + to) (l (fr * 8 + b) + l (b * 8 + to)) else l
def fwT (l : Nat → Int) (fr b : Nat) : Nat → Nat → Int
  | 0 => l
  | n + 1 => fwI (fwT l fr b n) fr b n
def fwF (l : Nat → Int) (b N : Nat) : Nat → Nat → Int
  | 0 => l
  | n + 1 => fwT (fwF l b N n) n b N
def fwB (l : Nat → Int) (N : Nat) : Nat → Nat → Int
  | 0 => l
  | n + 1 => fwF (fwB l N n) n N N
def fwG (l : Nat → Int) : Prop := (∀ x, x < 8 → l (x * 8 + x) = 0) ∧ ∀ i, i < 64 → -1 ≤ l i
theorem fwI_at {l : Nat → Int} (h : fwG l) {fr b to : Nat} (hf : fr < 8) (hb : b < 8) (ht : to < 8) : fwI l fr b to (fr * 8 + b) = l (fr * 8 + b) := by
  unfold fwI
  split
  · next z =>
    rcases Nat.lt_trichotomy to b with z1 | z1 | z1
    · exact lset_n (by omega)
    · subst z1
      have := h.1 to ht
      omega
    · exact lset_n (by omega)
  · rfl
theorem fwI_row {l : Nat → Int} (h : fwG l) {fr b to x : Nat} (hf : fr < 8) (hb : b < 8) (ht : to < 8) (hx : x < 8) : fwI l fr b to (b * 8 + x) = l (b * 8 + x) ∧ fwI l fr b to (x * 8 + b) = l (x * 8 + b) := by
  unfold fwI
  split
  · next z =>
    have h1 := h.1 b hb
    refine ⟨?_, ?_⟩
    · rcases Decidable.em (fr = b ∧ to = x) with e | e
      · obtain ⟨e1, e2⟩ := e
        subst e1 e2
        omega
      · exact lset_n (by omega)
    · rcases Decidable.em (fr = x ∧ to = b) with e | e
      · obtain ⟨e1, e2⟩ := e
        subst e1 e2
        omega
      · exact lset_n (by omega)
  · exact ⟨rfl, rfl⟩
theorem fwI_G {l : Nat → Int} (h : fwG l) {fr b to : Nat} (hf : fr < 8) (hb : b < 8) (ht : to < 8) : fwG (fwI l fr b to) := by
  unfold fwI
  split
  · next z =>
    have a1 := h.2 (fr * 8 + b) (by omega)
    have a2 := h.2 (b * 8 + to) (by omega)
    refine ⟨fun x hx => ?_, fun i hi => ?_⟩
    · rcases Decidable.em (x * 8 + x = fr * 8 + to) with e | e
      · have : fr = x ∧ to = x := by omega
        obtain ⟨e1, e2⟩ := this
        subst e1 e2
        have := h.1 to hx
        omega
      · rw [lset_n e]; exact h.1 x hx
    · rcases Decidable.em (i = fr * 8 + to) with e | e
      · rw [e, lset_s]; omega
      · rw [lset_n e]; exact h.2 i hi
  · exact h
theorem fwT_G {l : Nat → Int} (h : fwG l) {fr b n : Nat} (hf : fr < 8) (hb : b < 8) (hn : n ≤ 8) : fwG (fwT l fr b n) := by
  induction n with
  | zero => exact h
  | succ n ih => exact fwI_G (ih (by omega)) hf hb (by omega)
theorem fwT_at {l : Nat → Int} (h : fwG l) {fr b n : Nat} (hf : fr < 8) (hb : b < 8) (hn : n ≤ 8) : fwT l fr b n (fr * 8 + b) = l (fr * 8 + b) := by
  induction n with
  | zero => rfl
  | succ n ih => exact (fwI_at (fwT_G h hf hb (by omega)) hf hb (by omega)).trans (ih (by omega))
theorem fwF_G {l : Nat → Int} (h : fwG l) {b N n : Nat} (hb : b < 8) (hN : N ≤ 8) (hn : n ≤ 8) : fwG (fwF l b N n) := by
  induction n with
  | zero => exact h
  | succ n ih => exact fwT_G (ih (by omega)) (by omega) hb hN
theorem fwB_G {l : Nat → Int} (h : fwG l) {N n : Nat} (hN : N ≤ 8) (hn : n ≤ 8) : fwG (fwB l N n) := by
  induction n with
  | zero => exact h
  | succ n ih => exact fwF_G (ih (by omega)) (by omega) hN hN
/-- a cell as a whole -/
def cellS (g : mz_S) (q : Nat) (f : Nat → Int) : mz_S := fun a b => if a = q then f b else g a b
theorem cellS_s {g : mz_S} {q : Nat} {f : Nat → Int} : cellS g q f q = f := by funext b; unfold cellS; rw [if_pos rfl]
theorem cellS_n {g : mz_S} {q a : Nat} {f : Nat → Int} (h : a ≠ q) : cellS g q f a = g a := by funext b; unfold cellS; rw [if_neg h]
theorem cellS_up {g : mz_S} {q i : Nat} {f : Nat → Int} {v : Int} : mx_up (cellS g q f) q i v = cellS g q (lset f i v) := by
  funext a b; simp only [mx_up, cellS, lset]
  repeat' split
  all_goals first | rfl | omega
theorem cellS_id {g : mz_S} {q : Nat} : cellS g q (g q) = g := by
  funext a b; simp only [cellS]
  split
  · next h => rw [h]
  · rfl
/-- lags stay below what a stage doubles -/
def fwU (l : Nat → Int) (b : Nat) (B : Int) : Prop := (∀ i, i < 64 → l i ≤ 2 * B) ∧ ∀ x, x < 8 → l (x * 8 + b) ≤ B ∧ l (b * 8 + x) ≤ B
theorem fwI_U {l : Nat → Int} (h : fwG l) {fr b to : Nat} {B : Int} (hf : fr < 8) (hb : b < 8) (ht : to < 8) (u : fwU l b B) : fwU (fwI l fr b to) b B := by
  refine ⟨fun i hi => ?_, fun x hx => ?_⟩
  · have a1 := (u.2 fr hf).1
    have a2 := (u.2 to ht).2
    have a3 := u.1 i hi
    unfold fwI
    split
    · rcases Decidable.em (i = fr * 8 + to) with e | e
      · rw [e, lset_s]; omega
      · rw [lset_n e]; exact a3
    · exact a3
  · have := fwI_row h hf hb ht hx
    rw [this.1, this.2]
    exact u.2 x hx
theorem fwT_U {l : Nat → Int} (h : fwG l) {fr b n : Nat} {B : Int} (hf : fr < 8) (hb : b < 8) (hn : n ≤ 8) (u : fwU l b B) : fwU (fwT l fr b n) b B := by
  induction n with
  | zero => exact u
  | succ n ih => exact fwI_U (fwT_G h hf hb (by omega)) hf hb (by omega) (ih (by omega))
theorem fwF_U {l : Nat → Int} (h : fwG l) {b N n : Nat} {B : Int} (hb : b < 8) (hN : N ≤ 8) (hn : n ≤ 8) (u : fwU l b B) : fwU (fwF l b N n) b B := by
  induction n with
  | zero => exact u
  | succ n ih => exact fwT_U (fwF_G h hb hN (by omega)) (by omega) hb hN (ih (by omega))
theorem fwB_U {l : Nat → Int} (h : fwG l) {N n : Nat} (hN : N ≤ 8) (hn : n ≤ 8) (u : ∀ i, i < 64 → l i ≤ 9) : ∀ i, i < 64 → fwB l N n i ≤ 9 * 2 ^ n := by
  induction n with
  | zero => intro i hi; have := u i hi; show l i ≤ 9 * 2 ^ 0; omega
  | succ n ih =>
    intro i hi
    have h1 := ih (by omega)
    have hp : (0 : Int) ≤ 9 * 2 ^ n := Int.mul_nonneg (by omega) (Int.pow_nonneg (by omega))
    have h2 := (fwF_U (fwB_G h hN (by omega)) (b := n) (N := N) (n := N) (B := 9 * 2 ^ n) (by omega) hN hN ⟨fun j hj => by have := h1 j hj; omega, fun x hx => ⟨h1 _ (by omega), h1 _ (by omega)⟩⟩).1 i hi
    show fwF (fwB l N n) n N N i ≤ _
    rw [Int.pow_succ]
    omega
theorem sX5_shortenFrom {T : Nat × (Nat → Int32)} {d : Nat} {Q : mz_K} {X : mz_X} {g : mz_S} {l : Nat → Int} {fr b : Nat} (hl : g 3 = l) (h : fwG l) (hu : ∀ i, i < 64 → l i ≤ 100000) (hU : fwU l b 10000) (hf : fr < 8) (hb : b < 8) (k : Q 0 (cellS g 3 (fwT l fr b 8))) : zC T (d + 2) 75 [mx_R 1, mx_I (fr : Int), mx_I (b : Int)] g Q X := by
  refine zX5_shortenFrom (sX5_lagOf (by omega) (by omega) ?_)
  have e1 : ((fr : Int) * 8 + (b : Int)).toNat = fr * 8 + b := by omega
  rw [e1, hl]
  have b1 := h.2 (fr * 8 + b) (by omega)
  have b2 := hu (fr * 8 + b) (by omega)
  have main : ¬ l (fr * 8 + b) = -1 → ∀ n : Nat, n ≤ 8 → ∀ o5 o6 : Option mx_v, aX5_shortenFrom T (d + 1) Q X 10 [some (mx_R 1), some (mx_I (fr : Int)), some (mx_I (b : Int)), some (mx_I (l (fr * 8 + b))), some (mx_I (n : Int)), o5, o6] [] (cellS g 3 (fwT l fr b n)) (0, 0) := by
    intro hne
    refine upto ?_ (fun n hn ih => ?_)
    · intro o5 o6
      refine zX5_shortenFrom_10 ?_
      first | refine c_lt ?_ ?_ (fun h1 => ?_) (fun h1 => ?_) | refine c_le ?_ ?_ (fun h1 => ?_) (fun h1 => ?_) | refine c_eq ?_ ?_ (fun h1 => ?_) (fun h1 => ?_) | refine c_ne ?_ ?_ (fun h1 => ?_) (fun h1 => ?_)
      · omega
      · omega
      · exact zX5_shortenFrom_83 k
      · omega
    · intro o5 o6
      refine zX5_shortenFrom_10 ?_
      first | refine c_lt ?_ ?_ (fun h1 => ?_) (fun h1 => ?_) | refine c_le ?_ ?_ (fun h1 => ?_) (fun h1 => ?_) | refine c_eq ?_ ?_ (fun h1 => ?_) (fun h1 => ?_) | refine c_ne ?_ ?_ (fun h1 => ?_) (fun h1 => ?_)
      · omega
      · omega
      · omega
      · first | refine c_lt ?_ ?_ (fun h2 => ?_) (fun h2 => ?_) | refine c_le ?_ ?_ (fun h2 => ?_) (fun h2 => ?_) | refine c_eq ?_ ?_ (fun h2 => ?_) (fun h2 => ?_) | refine c_ne ?_ ?_ (fun h2 => ?_) (fun h2 => ?_)
        · omega
        · omega
        · exact absurd h2 hne
        · refine sX5_lagOf (by omega) (by omega) (sX5_lagOf (by omega) (by omega) ?_)
          have e2 : ((b : Int) * 8 + (n : Int)).toNat = b * 8 + n := by omega
          have e3 : ((fr : Int) * 8 + (n : Int)).toNat = fr * 8 + n := by omega
          rw [e2, e3, cellS_s]
          have hG := fwT_G h (n := n) hf hb (by omega)
          have hU2 := fwT_U h (n := n) hf hb (by omega) hU
          have c1 := hG.2 (b * 8 + n) (by omega)
          have c2 := hG.2 (fr * 8 + n) (by omega)
          have c3 := hU2.1 (b * 8 + n) (by omega)
          have c4 := hU2.1 (fr * 8 + n) (by omega)
          have c5 := fwT_at h (n := n) hf hb (by omega)
          have no : ¬ fwP (fwT l fr b n) fr b n → ∀ o5 o6 : Option mx_v, aX5_shortenFrom T (d + 1) Q X 10 [some (mx_R 1), some (mx_I (fr : Int)), some (mx_I (b : Int)), some (mx_I (l (fr * 8 + b))), some (mx_I ((n : Int) + 1)), o5, o6] [] (cellS g 3 (fwT l fr b n)) (0, 0) := by
            intro hp o5 o6
            have := ih o5 o6
            have e : fwT l fr b (n + 1) = fwT l fr b n := if_neg hp
            rw [e] at this
            exact this
          have yes : fwP (fwT l fr b n) fr b n → ∀ x6 : Int, aX5_shortenFrom T (d + 1) Q X 61 [some (mx_R 1), some (mx_I (fr : Int)), some (mx_I (b : Int)), some (mx_I (l (fr * 8 + b))), some (mx_I (n : Int)), some (mx_I (fwT l fr b n (b * 8 + n))), some (mx_I x6)] [] (cellS g 3 (fwT l fr b n)) (0, 0) := by
            intro hp x6
            refine zX5_shortenFrom_61 ?_
            refine s_inE (fr * 8 + n) ?_ ?_ (fun ea => ?_)
            · omega
            · omega
            try simp only [ea]
            clear ea
            rintro _ rfl
            rw [cellS_up]
            have e : fwT l fr b (n + 1) = lset (fwT l fr b n) (fr * 8 + n) (fwT l fr b n (fr * 8 + b) + fwT l fr b n (b * 8 + n)) := if_pos hp
            rw [c5] at e
            rw [← e]
            exact zX5_shortenFrom_77 (ih _ _)
          first | refine c_lt ?_ ?_ (fun h3 => ?_) (fun h3 => ?_) | refine c_le ?_ ?_ (fun h3 => ?_) (fun h3 => ?_) | refine c_eq ?_ ?_ (fun h3 => ?_) (fun h3 => ?_) | refine c_ne ?_ ?_ (fun h3 => ?_) (fun h3 => ?_)
          · omega
          · omega
          · exact zX5_shortenFrom_77 (no (fun z => z.2.1 h3) _ _)
          · first | refine c_lt ?_ ?_ (fun h4 => ?_) (fun h4 => ?_) | refine c_le ?_ ?_ (fun h4 => ?_) (fun h4 => ?_) | refine c_eq ?_ ?_ (fun h4 => ?_) (fun h4 => ?_) | refine c_ne ?_ ?_ (fun h4 => ?_) (fun h4 => ?_)
            · omega
            · omega
            · exact yes ⟨by rw [c5]; exact hne, h3, Or.inl h4⟩ _
            · first | refine c_lt ?_ ?_ (fun h5 => ?_) (fun h5 => ?_) | refine c_le ?_ ?_ (fun h5 => ?_) (fun h5 => ?_) | refine c_eq ?_ ?_ (fun h5 => ?_) (fun h5 => ?_) | refine c_ne ?_ ?_ (fun h5 => ?_) (fun h5 => ?_)
              · omega
              · omega
              · exact zX5_shortenFrom_77 (no (fun z => by have := z.2.2; rw [c5] at this; omega) _ _)
              · exact yes ⟨by rw [c5]; exact hne, h3, Or.inr (by rw [c5]; omega)⟩ _
  rcases Decidable.em (l (fr * 8 + b) = -1) with z | z
  · have same : ∀ n, n ≤ 8 → fwT l fr b n = l := by
      intro n
      induction n with
      | zero => intro _; rfl
      | succ n ih =>
        intro hn
        show fwI (fwT l fr b n) fr b n = l
        rw [ih (by omega)]
        exact if_neg (fun q => q.1 z)
    rw [same 8 (by omega), ← hl, cellS_id] at k
    refine zX5_shortenFrom_10 ?_
    first | refine c_lt ?_ ?_ (fun h1 => ?_) (fun h1 => ?_) | refine c_le ?_ ?_ (fun h1 => ?_) (fun h1 => ?_) | refine c_eq ?_ ?_ (fun h1 => ?_) (fun h1 => ?_) | refine c_ne ?_ ?_ (fun h1 => ?_) (fun h1 => ?_)
    · omega
    · omega
    · omega
    · exact ⟨fun _ => zX5_shortenFrom_83 k, fun q => absurd (by rw [z]) q⟩
  · have := main z 0 (by omega) none none
    have e : cellS g 3 (fwT l fr b 0) = g := by show cellS g 3 l = g; rw [← hl]; exact cellS_id
    rw [e] at this
    exact this
/-- lags before they are shortened: the roads, and 0 within a town -/
def lag0 (r l : Nat → Int) (n : Nat) : Nat → Int := fun i => if i < 64 then (if i / 8 = i % 8 ∧ i / 8 < n then 0 else r i) else l i
theorem lag0_s {r l : Nat → Int} {n : Nat} (hn : n < 8) : lset (lag0 r l n) (n * 8 + n) 0 = lag0 r l (n + 1) := by
  funext i; simp only [lset, lag0]
  repeat' split
  all_goals first | rfl | omega
def lagM (g : mz_S) : Nat → Int := fwB (lag0 (g 2) (g 3) 8) 8 8
theorem lag0_G {r l : Nat → Int} (hr : ∀ i, i < 64 → -1 ≤ r i) : fwG (lag0 r l 8) := by
  refine ⟨fun x hx => ?_, fun i hi => ?_⟩
  · unfold lag0; rw [if_pos (by omega), if_pos (by omega)]
  · unfold lag0; rw [if_pos hi]
    split
    · omega
    · exact hr i hi
theorem lag0_U {r l : Nat → Int} (hr : ∀ i, i < 64 → r i ≤ 9) : ∀ i, i < 64 → lag0 r l 8 i ≤ 9 := by
  intro i hi
  unfold lag0; rw [if_pos hi]
  split
  · omega
  · exact hr i hi
theorem sX5_measureLags {T : Nat × (Nat → Int32)} {d : Nat} {Q : mz_K} {X : mz_X} {g : mz_S} (hr : ∀ i, i < 64 → -1 ≤ g 2 i ∧ g 2 i ≤ 9) (k : Q 0 (cellS g 3 (lagM g))) : zC T (d + 3) 74 [mx_R 1] g Q X := by
  have hG : fwG (lag0 (g 2) (g 3) 8) := lag0_G (fun i hi => (hr i hi).1)
  have hU := lag0_U (l := g 3) (fun i hi => (hr i hi).2)
  -- the outer loops
  have outer : ∀ n : Nat, n ≤ 8 → ∀ o : Option mx_v, aX5_measureLags T (d + 2) Q X 46 [some (mx_R 1), some (mx_I (n : Int)), o] [] (cellS g 3 (fwB (lag0 (g 2) (g 3) 8) 8 n)) (0, 0) := by
    refine upto ?_ (fun n hn ih => ?_)
    · intro o
      refine zX5_measureLags_46 ?_
      first | refine c_lt ?_ ?_ (fun h => ?_) (fun h => ?_) | refine c_le ?_ ?_ (fun h => ?_) (fun h => ?_) | refine c_eq ?_ ?_ (fun h => ?_) (fun h => ?_) | refine c_ne ?_ ?_ (fun h => ?_) (fun h => ?_)
      · omega
      · omega
      · exact k
      · omega
    · intro o
      refine zX5_measureLags_46 ?_
      first | refine c_lt ?_ ?_ (fun h => ?_) (fun h => ?_) | refine c_le ?_ ?_ (fun h => ?_) (fun h => ?_) | refine c_eq ?_ ?_ (fun h => ?_) (fun h => ?_) | refine c_ne ?_ ?_ (fun h => ?_) (fun h => ?_)
      · omega
      · omega
      · omega
      · have hGn := fwB_G hG (N := 8) (n := n) (by omega) (by omega)
        have hp : (9 : Int) * 2 ^ n ≤ 2304 := by
          have h8 : n = 0 ∨ n = 1 ∨ n = 2 ∨ n = 3 ∨ n = 4 ∨ n = 5 ∨ n = 6 ∨ n = 7 := by omega
          rcases h8 with z | z | z | z | z | z | z | z <;> subst z <;> decide
        have hUn : ∀ i, i < 64 → fwB (lag0 (g 2) (g 3) 8) 8 n i ≤ 2304 := fun i hi => by
          have := fwB_U hG (N := 8) (n := n) (by omega) (by omega) hU i hi
          omega
        have inner : ∀ m : Nat, m ≤ 8 → aX5_measureLags T (d + 2) Q X 54 [some (mx_R 1), some (mx_I (n : Int)), some (mx_I (m : Int))] [] (cellS g 3 (fwF (fwB (lag0 (g 2) (g 3) 8) 8 n) n 8 m)) (0, 0) := by
          refine upto ?_ (fun m hm ih2 => ?_)
          · refine zX5_measureLags_54 ?_
            first | refine c_lt ?_ ?_ (fun h2 => ?_) (fun h2 => ?_) | refine c_le ?_ ?_ (fun h2 => ?_) (fun h2 => ?_) | refine c_eq ?_ ?_ (fun h2 => ?_) (fun h2 => ?_) | refine c_ne ?_ ?_ (fun h2 => ?_) (fun h2 => ?_)
            · omega
            · omega
            · exact ih _
            · omega
          · refine zX5_measureLags_54 ?_
            first | refine c_lt ?_ ?_ (fun h2 => ?_) (fun h2 => ?_) | refine c_le ?_ ?_ (fun h2 => ?_) (fun h2 => ?_) | refine c_eq ?_ ?_ (fun h2 => ?_) (fun h2 => ?_) | refine c_ne ?_ ?_ (fun h2 => ?_) (fun h2 => ?_)
            · omega
            · omega
            · omega
            · have hGm := fwF_G hGn (b := n) (N := 8) (n := m) (by omega) (by omega) (by omega)
              have hUm := fwF_U hGn (b := n) (N := 8) (n := m) (B := 2304) (by omega) (by omega) (by omega) ⟨fun j hj => by have := hUn j hj; omega, fun x hx => ⟨hUn _ (by omega), hUn _ (by omega)⟩⟩
              refine sX5_shortenFrom (l := fwF (fwB (lag0 (g 2) (g 3) 8) 8 n) n 8 m) cellS_s hGm (fun i hi => by have := hUm.1 i hi; omega) ⟨fun i hi => by have := hUm.1 i hi; omega, fun x hx => by have := hUm.2 x hx; omega⟩ hm hn ?_
              have e : cellS (cellS g 3 (fwF (fwB (lag0 (g 2) (g 3) 8) 8 n) n 8 m)) 3 (fwT (fwF (fwB (lag0 (g 2) (g 3) 8) 8 n) n 8 m) m n 8) = cellS g 3 (fwF (fwB (lag0 (g 2) (g 3) 8) 8 n) n 8 (m + 1)) := by
                funext a b; simp only [cellS]
                split
                · rfl
                · rfl
              rw [e]
              exact ih2
        exact inner 0 (by omega)
  have diag : ∀ n : Nat, n ≤ 8 → aX5_measureLags T (d + 2) Q X 20 [some (mx_R 1), some (mx_I (n : Int)), none] [] (cellS g 3 (lag0 (g 2) (g 3) n)) (0, 0) := by
    refine upto ?_ (fun n hn ih => ?_)
    · refine zX5_measureLags_20 ?_
      first | refine c_lt ?_ ?_ (fun h => ?_) (fun h => ?_) | refine c_le ?_ ?_ (fun h => ?_) (fun h => ?_) | refine c_eq ?_ ?_ (fun h => ?_) (fun h => ?_) | refine c_ne ?_ ?_ (fun h => ?_) (fun h => ?_)
      · omega
      · omega
      · exact outer 0 (by omega) _
      · omega
    · refine zX5_measureLags_20 ?_
      first | refine c_lt ?_ ?_ (fun h => ?_) (fun h => ?_) | refine c_le ?_ ?_ (fun h => ?_) (fun h => ?_) | refine c_eq ?_ ?_ (fun h => ?_) (fun h => ?_) | refine c_ne ?_ ?_ (fun h => ?_) (fun h => ?_)
      · omega
      · omega
      · omega
      · refine s_inE (n * 8 + n) ?_ ?_ (fun ea => ?_)
        · omega
        · omega
        try simp only [ea]
        clear ea
        rintro _ rfl
        rw [cellS_up, lag0_s hn]
        exact ih
  refine zX5_measureLags ⟨by decide, by decide, by decide, by decide, by decide, ?_⟩
  rintro _ rfl
  have e : mx_cpy g 2 3 (mx_at 0) (mx_at 0) (mx_at 64) = cellS g 3 (lag0 (g 2) (g 3) 0) := by
    have e0 : mx_at 0 = 0 := by decide
    have e1 : mx_at 64 = 64 := by decide
    rw [e0, e1]
    funext a b; simp only [mx_cpy, cellS, lag0]
    by_cases h : a = 3
    · subst h
      by_cases h2 : b < 64
      · rw [if_pos ⟨rfl, by omega, by omega⟩, if_pos rfl, if_pos h2, if_neg (by omega)]
        simp
      · rw [if_neg (by omega), if_pos rfl, if_neg h2]
    · rw [if_neg (fun z => h z.1), if_neg h]
  rw [e]
  exact diag 0 (by omega)
