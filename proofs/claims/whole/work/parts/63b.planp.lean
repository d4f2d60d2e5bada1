/-! plans: what they are; the class takes the debts -/
def dF (x : Int) (k : Nat) : Nat := nyb x (8 * k)
def dT (x : Int) (k : Nat) : Nat := nyb x (8 * k + 4)
def dA (c : mz_S) (co : Nat) (x : Int) (k : Nat) : Int := netC c (dF x k) (dT x k) co
def okB (c : mz_S) (co : Nat) (x : Int) (m n : Nat) : Bool := decide (∀ k, k < n → dF x k < m ∧ dT x k < m ∧ (∀ j, j < k → ¬ (dF x j = dF x k ∧ dT x j = dT x k)) ∧ 0 < dA c co x k)
theorem okB_iff {c : mz_S} {co : Nat} {x : Int} {m n : Nat} : okB c co x m n = true ↔ ∀ k, k < n → dF x k < m ∧ dT x k < m ∧ (∀ j, j < k → ¬ (dF x j = dF x k ∧ dT x j = dT x k)) ∧ 0 < dA c co x k := decide_eq_true_iff
def hasV (c : mz_S) (co : Nat) (b w : Nat) : Int := c 14 (b * 4 + co) + sumN (eX c (b : Int) (co : Int) 0 ((c 1 0).toNat + 7 * w + 1)) (c 72 4).toNat
def dlt (c : mz_S) (co : Nat) (x : Int) (n : Nat) (P : Nat → Bool) (b : Nat) : Int := sumN (fun k => if P k = true then (if dT x k = b then dA c co x k else 0) - (if dF x k = b then dA c co x k else 0) else 0) n
def fitB (c : mz_S) (co : Nat) (x : Int) (m n w : Nat) (P : Nat → Bool) : Bool := decide (∀ b, b < m → 0 ≤ hasV c co b w + dlt c co x n P b)
theorem fitB_iff {c : mz_S} {co : Nat} {x : Int} {m n w : Nat} {P : Nat → Bool} : fitB c co x m n w P = true ↔ ∀ b, b < m → 0 ≤ hasV c co b w + dlt c co x n P b := decide_eq_true_iff
theorem dlt_cg {c : mz_S} {co : Nat} {x : Int} {n : Nat} {P P' : Nat → Bool} {b : Nat} (h : ∀ k, k < n → P k = P' k) : dlt c co x n P b = dlt c co x n P' b := sumN_congr (fun k hk => by rw [h k hk])
theorem fitB_cg {c : mz_S} {co : Nat} {x : Int} {m n w : Nat} {P P' : Nat → Bool} (h : ∀ k, k < n → P k = P' k) : fitB c co x m n w P = fitB c co x m n w P' := by
  unfold fitB
  congr 1
  apply propext
  constructor
  · intro q b hb; rw [← dlt_cg h]; exact q b hb
  · intro q b hb; rw [dlt_cg h]; exact q b hb
/-- the weeks of the q-th plan -/
def wkV (n wks q d : Nat) : Nat := 1 + q / wks ^ (n - 1 - d) % wks
def mxN (f : Nat → Nat) : Nat → Nat
  | 0 => 0
  | k + 1 => max (mxN f k) (f k)
def smN (f : Nat → Nat) : Nat → Nat
  | 0 => 0
  | k + 1 => smN f k + f k
def rgtB (c : mz_S) (co : Nat) (x : Int) (m n wks : Nat) (W : Nat → Nat) : Bool := decide (∀ w, w < wks → fitB c co x m n (w + 1) (fun k => decide (W k ≤ w + 1)) = true)
theorem rgtB_iff {c : mz_S} {co : Nat} {x : Int} {m n wks : Nat} {W : Nat → Nat} : rgtB c co x m n wks W = true ↔ ∀ w, w < wks → fitB c co x m n (w + 1) (fun k => decide (W k ≤ w + 1)) = true := decide_eq_true_iff
theorem rgtB_cg {c : mz_S} {co : Nat} {x : Int} {m n wks : Nat} {W W' : Nat → Nat} (h : ∀ k, k < n → W k = W' k) : rgtB c co x m n wks W = rgtB c co x m n wks W' := by
  unfold rgtB
  congr 1
  apply propext
  have e : ∀ w, fitB c co x m n (w + 1) (fun k => decide (W k ≤ w + 1)) = fitB c co x m n (w + 1) (fun k => decide (W' k ≤ w + 1)) := fun w => fitB_cg (fun k hk => by rw [h k hk])
  constructor
  · intro q w hw; rw [← e]; exact q w hw
  · intro q w hw; rw [e]; exact q w hw
def plR (c : mz_S) (co : Nat) (x : Int) (m n wks : Nat) : Nat → Int × Int × Nat
  | 0 => (-1, 0, 0)
  | q + 1 => if ((plR c co x m n wks q).1 = -1 ∨ (mxN (wkV n wks q) n : Int) < (plR c co x m n wks q).1 ∨ ((mxN (wkV n wks q) n : Int) = (plR c co x m n wks q).1 ∧ (smN (wkV n wks q) n : Int) < (plR c co x m n wks q).2.1)) ∧ rgtB c co x m n wks (wkV n wks q) = true then ((mxN (wkV n wks q) n : Int), (smN (wkV n wks q) n : Int), q) else plR c co x m n wks q
theorem wkV_rng {n wks q d : Nat} (h : 1 ≤ wks) : 1 ≤ wkV n wks q d ∧ wkV n wks q d ≤ wks := by
  unfold wkV
  have := Nat.mod_lt (q / wks ^ (n - 1 - d)) (show wks > 0 by omega)
  omega
theorem mxN_le {f : Nat → Nat} {B : Nat} : ∀ n, (∀ k, k < n → f k ≤ B) → mxN f n ≤ B := by
  intro n
  induction n with
  | zero => intro _; exact Nat.zero_le _
  | succ n ih =>
    intro h
    have := ih (fun k hk => h k (by omega))
    have := h n (by omega)
    show max _ _ ≤ B
    omega
theorem smN_le {f : Nat → Nat} {B : Nat} : ∀ n, (∀ k, k < n → f k ≤ B) → smN f n ≤ n * B := by
  intro n
  induction n with
  | zero => intro _; exact Nat.zero_le _
  | succ n ih =>
    intro h
    have h1 := ih (fun k hk => h k (by omega))
    have h2 := h n (by omega)
    show smN f n + f n ≤ (n + 1) * B
    rw [Nat.add_mul]
    omega
theorem plR_rng {c : mz_S} {co m n wks : Nat} {x : Int} (hn : n ≤ 6) (hw : 1 ≤ wks ∧ wks ≤ 4) : ∀ q, (-1 ≤ (plR c co x m n wks q).1 ∧ (plR c co x m n wks q).1 ≤ 4) ∧ (0 ≤ (plR c co x m n wks q).2.1 ∧ (plR c co x m n wks q).2.1 ≤ 24) := by
  intro q
  induction q with
  | zero => exact ⟨⟨by show (-1 : Int) ≤ -1; omega, by show (-1 : Int) ≤ 4; omega⟩, by show (0 : Int) ≤ 0; omega, by show (0 : Int) ≤ 24; omega⟩
  | succ q ih =>
    unfold plR
    split
    · have h1 := mxN_le (f := wkV n wks q) (B := wks) n (fun k _ => (wkV_rng hw.1).2)
      have h2 := smN_le (f := wkV n wks q) (B := wks) n (fun k _ => (wkV_rng hw.1).2)
      have h3 : n * wks ≤ 6 * 4 := Nat.mul_le_mul hn hw.2
      refine ⟨⟨?_, ?_⟩, ?_, ?_⟩
      · show (-1 : Int) ≤ (mxN (wkV n wks q) n : Int); omega
      · show (mxN (wkV n wks q) n : Int) ≤ 4; omega
      · show (0 : Int) ≤ (smN (wkV n wks q) n : Int); omega
      · show (smN (wkV n wks q) n : Int) ≤ 24; omega
    · exact ih
/-- the class: are they debts? -/
theorem sX2_isTakenTwice {T : Nat × (Nat → Int32)} {d : Nat} {Q : mz_K} {X : mz_X} {g : mz_S} {x : Int} {k : Nat} (hk : k < 6) (h : ∀ j, j ≤ k → g 79 j = (dF x j : Nat) ∧ g 80 j = (dT x j : Nat)) (kk : (∀ v, (v = 0 ∧ ∀ j, j < k → ¬ (dF x j = dF x k ∧ dT x j = dT x k)) ∨ (v = 1 ∧ ¬ ∀ j, j < k → ¬ (dF x j = dF x k ∧ dT x j = dT x k)) → Q v g)) : zC T (d + 1) 27 [mx_R 72, mx_I (k : Int)] g Q X := by
  have nl : ∀ j : Nat, ((nyb x j : Nat) : Int) < 16 := fun j => by have := nyb_lt x j; omega
  refine zX2_isTakenTwice ?_
  have main : ∀ n j : Nat, j + n = k → (∀ i, i < j → ¬ (dF x i = dF x k ∧ dT x i = dT x k)) → aX2_isTakenTwice T d Q X 2 [some (mx_R 72), some (mx_I (k : Int)), some (mx_I (j : Int))] [] g (0, 0) := by
    intro n
    induction n with
    | zero =>
      intro j hj hi
      refine zX2_isTakenTwice_2 ?_
      first | with_reducible refine c_lt ?_ ?_ (fun z => ?_) (fun z => ?_) | with_reducible refine c_le ?_ ?_ (fun z => ?_) (fun z => ?_) | with_reducible refine c_eq ?_ ?_ (fun z => ?_) (fun z => ?_) | with_reducible refine c_ne ?_ ?_ (fun z => ?_) (fun z => ?_)
      · omega
      · omega
      · refine ⟨zb0, kk 0 (Or.inl ⟨rfl, fun i h => hi i (by omega)⟩)⟩
      · omega
    | succ n ih =>
      intro j hj hi
      have e1 := h j (by omega)
      have e2 := h k (by omega)
      have l1 := nyb_lt x (8 * j)
      have l2 := nyb_lt x (8 * k)
      have l3 := nyb_lt x (8 * j + 4)
      have l4 := nyb_lt x (8 * k + 4)
      have f1 : dF x j < 16 := l1
      have f2 : dF x k < 16 := l2
      have f3 : dT x j < 16 := l3
      have f4 : dT x k < 16 := l4
      refine zX2_isTakenTwice_2 ?_
      first | with_reducible refine c_lt ?_ ?_ (fun z => ?_) (fun z => ?_) | with_reducible refine c_le ?_ ?_ (fun z => ?_) (fun z => ?_) | with_reducible refine c_eq ?_ ?_ (fun z => ?_) (fun z => ?_) | with_reducible refine c_ne ?_ ?_ (fun z => ?_) (fun z => ?_)
      · omega
      · omega
      · omega
      · have nx : ¬ (dF x j = dF x k ∧ dT x j = dT x k) → aX2_isTakenTwice T d Q X 39 [some (mx_R 72), some (mx_I (k : Int)), some (mx_I (j : Int))] [] g (0, 0) := by
          intro ne
          refine zX2_isTakenTwice_39 ?_
          rw [show (j : Int) + 1 = ((j + 1 : Nat) : Int) by omega]
          refine ih (j + 1) (by omega) (fun i hi2 => ?_)
          by_cases y : i = j
          · subst y; exact ne
          · exact hi i (by omega)
        refine s_inN ?_ (fun ea => ?_)
        · omega
        try simp only [ea]
        clear ea
        refine s_inN ?_ (fun ea => ?_)
        · omega
        try simp only [ea]
        clear ea
        rw [e1.1, e2.1]
        first | with_reducible refine c_lt ?_ ?_ (fun z1 => ?_) (fun z1 => ?_) | with_reducible refine c_le ?_ ?_ (fun z1 => ?_) (fun z1 => ?_) | with_reducible refine c_eq ?_ ?_ (fun z1 => ?_) (fun z1 => ?_) | with_reducible refine c_ne ?_ ?_ (fun z1 => ?_) (fun z1 => ?_)
        · omega
        · omega
        · exact nx (fun y => by omega)
        · refine s_inN ?_ (fun ea => ?_)
          · omega
          try simp only [ea]
          clear ea
          refine s_inN ?_ (fun ea => ?_)
          · omega
          try simp only [ea]
          clear ea
          rw [e1.2, e2.2]
          first | with_reducible refine c_lt ?_ ?_ (fun z2 => ?_) (fun z2 => ?_) | with_reducible refine c_le ?_ ?_ (fun z2 => ?_) (fun z2 => ?_) | with_reducible refine c_eq ?_ ?_ (fun z2 => ?_) (fun z2 => ?_) | with_reducible refine c_ne ?_ ?_ (fun z2 => ?_) (fun z2 => ?_)
          · omega
          · omega
          · exact nx (fun y => by omega)
          · exact ⟨zb1, kk 1 (Or.inr ⟨rfl, fun q => q j (by omega) ⟨by omega, by omega⟩⟩)⟩
  exact main k 0 (by omega) (fun i hi => absurd hi (Nat.not_lt_zero _))
theorem sX2_takeDebts {T : Nat × (Nat → Int32)} {d : Nat} {Q : mz_K} {X : mz_X} {g : mz_S} {co m n : Nat} {x : Int} (w : WfG g) (em : g 9 1 = (m : Int)) (hm : m ≤ 12) (hco : co < 4) (hn : n ≤ 6) (k : ∀ g', Ch [79, 80, 81] [] g g' → (okB g co x m n = true → ∀ j, j < n → g' 79 j = (dF x j : Nat) ∧ g' 80 j = (dT x j : Nat) ∧ g' 81 j = dA g co x j) → Q (pI (okB g co x m n = true)) g') : zC T (d + 3) 26 [mx_R 72, mx_I (co : Int), mx_J x, mx_I (n : Int)] g Q X := by
  refine zX2_takeDebts ?_
  have main : ∀ c i : Nat, i + c = n → ∀ G o6, Ch [79, 80, 81] [] g G → okB g co x m i = true → (∀ j, j < i → G 79 j = (dF x j : Nat) ∧ G 80 j = (dT x j : Nat) ∧ G 81 j = dA g co x j) → aX2_takeDebts T (d + 2) Q X 3 [some (mx_R 72), some (mx_I (co : Int)), some (mx_J x), none, some (mx_I (n : Int)), some (mx_I (i : Int)), o6] [] G (0, 0) := by
    intro c
    induction c with
    | zero =>
      intro i hi G o6 cG ok hG
      refine zX2_takeDebts_3 ?_
      first | with_reducible refine c_lt ?_ ?_ (fun z => ?_) (fun z => ?_) | with_reducible refine c_le ?_ ?_ (fun z => ?_) (fun z => ?_) | with_reducible refine c_eq ?_ ?_ (fun z => ?_) (fun z => ?_) | with_reducible refine c_ne ?_ ?_ (fun z => ?_) (fun z => ?_)
      · omega
      · omega
      · refine ⟨zb1, ?_⟩
        have : i = n := by omega
        subst this
        have := k G cG (fun _ => hG)
        rw [pI_t ok] at this
        exact this
      · omega
    | succ c ih =>
      intro i hi G o6 cG ok hG
      have okp := okB_iff.mp ok
      have l1 : dF x i < 16 := nyb_lt x (8 * i)
      have l2 : dT x i < 16 := nyb_lt x (8 * i + 4)
      refine zX2_takeDebts_3 ?_
      have no : ∀ G2, Ch [79, 80, 81] [] g G2 → ¬ (dF x i < m ∧ dT x i < m ∧ (∀ j, j < i → ¬ (dF x j = dF x i ∧ dT x j = dT x i)) ∧ 0 < dA g co x i) → Q 0 G2 := by
        intro G2 c2 q
        have nk : ¬ okB g co x m n = true := fun y => q (okB_iff.mp y i (by omega))
        have := k G2 c2 (fun y => absurd y nk)
        rw [pI_f nk] at this
        exact this
      first | with_reducible refine c_lt ?_ ?_ (fun z => ?_) (fun z => ?_) | with_reducible refine c_le ?_ ?_ (fun z => ?_) (fun z => ?_) | with_reducible refine c_eq ?_ ?_ (fun z => ?_) (fun z => ?_) | with_reducible refine c_ne ?_ ?_ (fun z => ?_) (fun z => ?_)
      · omega
      · omega
      · omega
      · rw [dbt_c1 x (by omega), dbt_c2 x (by omega)]
        refine s_inN ?_ (fun ea => ?_)
        · omega
        try simp only [ea]
        clear ea
        intro G1 e1
        refine s_inN ?_ (fun ea => ?_)
        · omega
        try simp only [ea]
        clear ea
        intro G2 e2
        have c2 : Ch [79, 80, 81] [] g G2 := by rw [e2, e1]; exact (cG.up (by decide) (by decide)).up (by decide) (by decide)
        have f79 : G2 79 i = (dF x i : Nat) := by rw [e2, up_q (by decide), e1, up_s]; rfl
        have f80 : G2 80 i = (dT x i : Nat) := by rw [e2, up_s]; rfl
        refine s_inN ?_ (fun ea => ?_)
        · omega
        try simp only [ea]
        clear ea
        rw [c2.1 9 (by decide) (by decide), em, f79]
        first | with_reducible refine c_lt ?_ ?_ (fun z1 => ?_) (fun z1 => ?_) | with_reducible refine c_le ?_ ?_ (fun z1 => ?_) (fun z1 => ?_) | with_reducible refine c_eq ?_ ?_ (fun z1 => ?_) (fun z1 => ?_) | with_reducible refine c_ne ?_ ?_ (fun z1 => ?_) (fun z1 => ?_)
        · omega
        · omega
        · exact zX2_takeDebts_90 ⟨zb0, no G2 c2 (fun q => by omega)⟩
        · refine s_inN ?_ (fun ea => ?_)
          · omega
          try simp only [ea]
          clear ea
          rw [f80]
          first | with_reducible refine c_lt ?_ ?_ (fun z2 => ?_) (fun z2 => ?_) | with_reducible refine c_le ?_ ?_ (fun z2 => ?_) (fun z2 => ?_) | with_reducible refine c_eq ?_ ?_ (fun z2 => ?_) (fun z2 => ?_) | with_reducible refine c_ne ?_ ?_ (fun z2 => ?_) (fun z2 => ?_)
          · omega
          · omega
          · exact zX2_takeDebts_90 ⟨zb0, no G2 c2 (fun q => by omega)⟩
          · have h2 : ∀ j, j ≤ i → G2 79 j = (dF x j : Nat) ∧ G2 80 j = (dT x j : Nat) := by
              intro j hj
              by_cases y : j = i
              · subst y; exact ⟨f79, f80⟩
              · have := hG j (by omega)
                rw [e2, up_q (by decide), up_i y, e1, up_i y, up_q (by decide)]
                exact ⟨this.1, this.2.1⟩
            refine sX2_isTakenTwice (d := d + 1) (x := x) (by omega) h2 (fun v hv => ?_)
            rcases hv with ⟨rfl, hv⟩ | ⟨rfl, hv⟩
            · refine ⟨fun _ => ?_, fun y => absurd rfl y⟩
              refine s_inN ?_ (fun ea => ?_)
              · omega
              try simp only [ea]
              clear ea
              refine s_inN ?_ (fun ea => ?_)
              · omega
              try simp only [ea]
              clear ea
              rw [f79, f80]
              refine sX6_net (by omega) (by omega) hco ?_
              have ea : netC G2 (dF x i) (dT x i) co = dA g co x i := by unfold dA netC; rw [c2.1 23 (by decide) (by decide)]
              rw [ea]
              refine s_inN ?_ (fun ea => ?_)
              · omega
              try simp only [ea]
              clear ea
              intro G3 e3
              have c3 : Ch [79, 80, 81] [] g G3 := by rw [e3]; exact c2.up (by decide) (by decide)
              have rn : -2000000000 ≤ dA g co x i ∧ dA g co x i ≤ 2000000000 := w.2.2.1 ((dF x i * 12 + dT x i) * 4 + co) (by omega)
              refine s_inN ?_ (fun ea => ?_)
              · omega
              try simp only [ea]
              clear ea
              rw [show G3 81 i = dA g co x i by rw [e3, up_s]]
              first | with_reducible refine l_gt ?_ ?_ (fun z3 => ?_) (fun z3 => ?_) | with_reducible refine l_lt ?_ ?_ (fun z3 => ?_) (fun z3 => ?_) | with_reducible refine l_ge ?_ ?_ (fun z3 => ?_) (fun z3 => ?_) | with_reducible refine l_le ?_ ?_ (fun z3 => ?_) (fun z3 => ?_) | with_reducible refine l_eq ?_ ?_ (fun z3 => ?_) (fun z3 => ?_) | with_reducible refine l_ne ?_ ?_ (fun z3 => ?_) (fun z3 => ?_)
              · omega
              · omega
              · rw [show (i : Int) + 1 = ((i + 1 : Nat) : Int) by omega]
                refine ih (i + 1) (by omega) G3 _ c3 (okB_iff.mpr (fun j hj => ?_)) (fun j hj => ?_)
                · by_cases y : j = i
                  · subst y; exact ⟨by omega, by omega, hv, z3⟩
                  · exact okp j (by omega)
                · rw [e3, up_q (by decide), up_q (by decide)]
                  have hj2 := h2 j (by omega)
                  refine ⟨hj2.1, hj2.2, ?_⟩
                  by_cases y : j = i
                  · subst y; rw [up_s]
                  · rw [up_i y, e2, up_q (by decide), e1, up_q (by decide)]
                    exact (hG j (by omega)).2.2
              · exact ⟨zb0, no G3 c3 (fun q => by omega)⟩
            · refine ⟨fun y => absurd y (by decide), fun _ => ?_⟩
              exact zX2_takeDebts_90 ⟨zb0, no G2 c2 (fun q => hv q.2.2.1)⟩
  exact main n 0 (by omega) g none (Ch.rf g) (okB_iff.mpr (fun j hj => absurd hj (Nat.not_lt_zero _))) (fun j hj => absurd hj (Nat.not_lt_zero _))
