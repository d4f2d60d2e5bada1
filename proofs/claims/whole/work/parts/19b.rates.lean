/-! rates as a fold; worth -/
abbrev rtCd (rc lg rd : Nat → Int) (coin day : Int) (r : Nat) : Prop := rc r = coin ∧ ¬ lg r = -1 ∧ rd r + lg r ≤ day
def rtF (rc lg rd : Nat → Int) (coin day : Int) : Nat → Int
  | 0 => -1
  | n + 1 => if rtCd rc lg rd coin day n ∧ (rtF rc lg rd coin day n = -1 ∨ rd (rtF rc lg rd coin day n).toNat < rd n ∨ (rd n = rd (rtF rc lg rd coin day n).toNat ∧ lg n ≤ lg (rtF rc lg rd coin day n).toNat)) then (n : Int) else rtF rc lg rd coin day n
theorem rtF_B (rc lg rd : Nat → Int) (coin day : Int) (n : Nat) : rtB rc lg rd coin day 0 n (rtF rc lg rd coin day n) := by
  induction n with
  | zero => exact Or.inl ⟨rfl, fun r _ h => by omega⟩
  | succ n ih =>
    show rtB rc lg rd coin day 0 (n + 1) (if _ then _ else _)
    split
    · next h =>
      refine Or.inr ⟨n, rfl, Nat.zero_le _, by omega, h.1, fun r _ h2 h3 => ?_⟩
      rcases Nat.lt_or_ge r n with h4 | h4
      · rcases ih with ⟨e, h5⟩ | ⟨j, e, -, uj, cj, h5⟩
        · exact absurd h3 (h5 r (Nat.zero_le _) h4)
        · have h6 := h5 r (Nat.zero_le _) h4 h3
          have h7 := h.2
          rw [show (rtF rc lg rd coin day n).toNat = j by omega] at h7
          omega
      · have : r = n := by omega
        subst this
        omega
    · next h =>
      rcases ih with ⟨e, h5⟩ | ⟨j, e, -, uj, cj, h5⟩
      · refine Or.inl ⟨e, fun r h1 h2 h3 => ?_⟩
        rcases Nat.lt_or_ge r n with h4 | h4
        · exact h5 r h1 h4 h3
        · have : r = n := by omega
          subst this
          exact h ⟨h3, Or.inl e⟩
      · refine Or.inr ⟨j, e, Nat.zero_le _, by omega, cj, fun r h1 h2 h3 => ?_⟩
        rcases Nat.lt_or_ge r n with h4 | h4
        · exact h5 r h1 h4 h3
        · have : r = n := by omega
          subst this
          have h6 : ¬ (rtF rc lg rd coin day r = -1 ∨ rd (rtF rc lg rd coin day r).toNat < rd r ∨ (rd r = rd (rtF rc lg rd coin day r).toNat ∧ lg r ≤ lg (rtF rc lg rd coin day r).toNat)) := fun z => h ⟨h3, z⟩
          rw [show (rtF rc lg rd coin day r).toNat = j by omega] at h6
          omega
theorem rtF_congr {rc lg rd rc' lg' rd' : Nat → Int} {coin day : Int} {n : Nat} (h1 : ∀ r, r < n → rc r = rc' r) (h2 : ∀ r, r < n → lg r = lg' r) (h3 : ∀ r, r < n → rd r = rd' r) : rtF rc lg rd coin day n = rtF rc' lg' rd' coin day n := by
  have hb := rtF_B rc lg rd coin day n
  refine rtB_one (rc := rc') (lg := lg') (rd := rd') (lo := 0) (n := n) ?_ (rtF_B rc' lg' rd' coin day n)
  rcases hb with ⟨e, h5⟩ | ⟨j, e, -, uj, cj, h5⟩
  · refine Or.inl ⟨e, fun r h6 h7 h8 => h5 r h6 h7 ?_⟩
    unfold rtC at h8 ⊢
    rw [h1 r h7, h2 r h7, h3 r h7]; exact h8
  · refine Or.inr ⟨j, e, Nat.zero_le _, uj, ?_, fun r h6 h7 h8 => ?_⟩
    · unfold rtC at cj ⊢
      rw [← h1 j uj, ← h2 j uj, ← h3 j uj]; exact cj
    · rw [← h2 j uj, ← h3 j uj, ← h2 r h7, ← h3 r h7]
      refine h5 r h6 h7 ?_
      unfold rtC at h8 ⊢
      rw [h1 r h7, h2 r h7, h3 r h7]; exact h8
def lgC (g : mz_S) (t : Int) (r : Nat) : Int := g 3 (g 5 r * 8 + t).toNat
def rateC (g : mz_S) (t c dy : Int) : Int := rtV (g 7) (rtF (g 6) (lgC g t) (g 4) c dy (g 1 4).toNat)
def worthC (g : mz_S) (n c t : Int) : Int := n * rateC g t c (g 1 0) / 100
/-- Land's cells are as they should be -/
def WfL0 (g : mz_S) : Prop :=
  (0 ≤ g 1 0 ∧ g 1 0 ≤ 999) ∧ (0 ≤ g 1 1 ∧ g 1 1 ≤ 8) ∧ (0 ≤ g 1 4 ∧ g 1 4 ≤ 150) ∧ (∀ i, i < 64 → -1 ≤ g 3 i ∧ g 3 i ≤ 9999)
  ∧ (∀ r, r < (g 1 4).toNat → (0 ≤ g 5 r ∧ g 5 r < 8) ∧ (1 ≤ g 6 r ∧ g 6 r < 4) ∧ (1 ≤ g 7 r ∧ g 7 r ≤ 1000) ∧ (0 ≤ g 4 r ∧ g 4 r ≤ 999))
  ∧ (∀ r s, r ≤ s → s < (g 1 4).toNat → g 4 r ≤ g 4 s)
def WfC (g : mz_S) : Prop := ∀ t c : Nat, t < 8 → c < 4 → g 8 (t * 4 + c) = 0 ∨ g 8 (t * 4 + c) = rateC g t c (g 1 0)
def WfL (g : mz_S) : Prop := WfL0 g ∧ WfC g
theorem rtV_rng {g : mz_S} (w : WfL0 g) {rc lg rd : Nat → Int} {c dy b : Int} (h : rtB rc lg rd c dy 0 (g 1 4).toNat b) : 1 ≤ rtV (g 7) b ∧ rtV (g 7) b ≤ 1000 := by
  unfold rtV
  split
  · omega
  · rcases h with ⟨e, -⟩ | ⟨j, e, -, uj, -⟩
    · omega
    · rw [show b.toNat = j by omega]
      exact (w.2.2.2.2.1 j uj).2.2.1
theorem rateC_rng {g : mz_S} (w : WfL0 g) (t c dy : Int) : 1 ≤ rateC g t c dy ∧ rateC g t c dy ≤ 1000 := rtV_rng w (rtF_B _ _ _ _ _ _)
theorem sX5_rateHeard {T : Nat × (Nat → Int32)} {d : Nat} {Q : mz_K} {X : mz_X} {g : mz_S} {t c dy : Int} (w : WfL0 g) (ht : 0 ≤ t ∧ t < 8) (hc : 0 ≤ c ∧ c < 4) (hd : 0 ≤ dy ∧ dy ≤ 999) (k : Q (rateC g t c dy) g) : zC T (d + 1) 79 [mx_R 1, mx_I t, mx_I c, mx_I dy] g Q X := by
  obtain ⟨h0, h1, h2, h3, h4, h5⟩ := w
  refine zX5_rateHeard ?_
  rcases Int.lt_or_le 0 c with hp | hp
  · have := sX5_rateHeard_at (T := T) (d := d) (Q := Q) (X := X) (g := g) (u := (0, 0)) (t := t) (c := c) (dy := dy) (n := (g 1 4).toNat) (lg := lgC g t) (by omega) ht (by omega) hd (fun r hr => (h4 r hr).1) (fun r hr => by have := (h4 r hr).2.1; omega) (fun r hr => (h4 r hr).2.2.2) (fun r hr => ⟨rfl, by have a := (h4 r hr).1; have := h3 (g 5 r * 8 + t).toNat (by omega); unfold lgC; omega⟩) h5 (fun b hb => by
      have e : b = rtF (g 6) (lgC g t) (g 4) c dy (g 1 4).toNat := rtB_one hb (rtF_B _ _ _ _ _ _)
      rw [e]; exact k) (g 1 4).toNat (-1) (-1) none none (Nat.le_refl _) (Or.inl ⟨rfl, fun r a b => by omega⟩) (fun z => absurd rfl z) (by omega)
    rw [show (((g 1 4).toNat : Nat) : Int) = g 1 4 by omega] at this
    exact this
  · have hc0 : c = 0 := by omega
    subst hc0
    have e : rtF (g 6) (lgC g t) (g 4) 0 dy (g 1 4).toNat = -1 := rtB_one (rtF_B _ _ _ _ _ _) (Or.inl ⟨rfl, fun r _ hr z => by have := (h4 r hr).2.1; have := z.1; omega⟩)
    have k2 : Q 100 g := by unfold rateC rtV at k; rw [e] at k; exact k
    have fin : aX5_rateHeard T d Q X 138 [some (mx_R 1), some (mx_I t), some (mx_I 0), some (mx_I dy), some (mx_I (-1)), some (mx_I (-1)), some (mx_I (g 1 4 - 1)), none, none] [] g (0, 0) := by
      refine zX5_rateHeard_138 ⟨fun z => absurd rfl z, fun _ => zX5_rateHeard_156 k2⟩
    refine zX5_rateHeard_14 ?_
    first | refine c_lt ?_ ?_ (fun h => ?_) (fun h => ?_) | refine c_le ?_ ?_ (fun h => ?_) (fun h => ?_) | refine c_eq ?_ ?_ (fun h => ?_) (fun h => ?_) | refine c_ne ?_ ?_ (fun h => ?_) (fun h => ?_)
    · omega
    · omega
    · exact fin
    · exact ⟨fun _ => fin, fun z => absurd rfl z⟩
theorem sJ9_floorDiv {T : Nat × (Nat → Int32)} {d : Nat} {Q : mz_K} {X : mz_X} {g : mz_S} {x : Int} (hx : R64 x) (k : Q (x / 100) g) : zC T (d + 1) 346 [mx_J x, mx_J 100] g Q X := by
  have hd : mx_ldiv x 100 = x.tdiv 100 := ldiv_of hx (by omega) (by omega)
  have hx1 : w32 0 ≤ w32 (mx_lcmp (mx_lxor x 100) 0) ↔ 0 ≤ x := by
    rw [lc_ge, mx_w0l]
    unfold mx_lxor w64
    rw [Int64.ofInt_toInt]
    have e1 : (0 ≤ (Int64.ofInt x ^^^ Int64.ofInt 100).toInt) ↔ 0 ≤ (Int64.ofInt x).toInt := by
      rw [← Int64.toInt_toBitVec, ← Int64.toInt_toBitVec, Int64.toBitVec_xor]
      have a1 : ∀ v : BitVec 64, 0 ≤ v.toInt ↔ v.msb = false := by
        intro v
        have := BitVec.msb_eq_toInt (x := v)
        constructor
        · intro z; rw [this]; simp; omega
        · intro z; rw [this] at z; simp at z; omega
      rw [a1, a1, BitVec.msb_xor, show (Int64.ofInt 100).toBitVec.msb = false from by decide]
      simp
    rw [e1, show (Int64.ofInt x).toInt = x from w64_of hx.1 hx.2]
  refine zJ9_floorDiv_f86c9 ⟨by decide, ?_, ?_⟩
  · intro h
    rw [hx1] at h
    refine zJ9_floorDiv_f86c9_27 ?_
    rw [hd, Int.tdiv_eq_ediv_of_nonneg h]; exact k
  · intro h
    rw [hx1] at h
    rw [hd]
    have hq : x.tdiv 100 = -((-x) / 100) := by
      rw [← Int.neg_neg x, Int.neg_tdiv, Int.neg_neg, Int.tdiv_eq_ediv_of_nonneg (by omega)]
    rw [hq]
    first | refine l_gt ?_ ?_ (fun h2 => ?_) (fun h2 => ?_) | refine l_lt ?_ ?_ (fun h2 => ?_) (fun h2 => ?_) | refine l_ge ?_ ?_ (fun h2 => ?_) (fun h2 => ?_) | refine l_le ?_ ?_ (fun h2 => ?_) (fun h2 => ?_) | refine l_eq ?_ ?_ (fun h2 => ?_) (fun h2 => ?_) | refine l_ne ?_ ?_ (fun h2 => ?_) (fun h2 => ?_)
    · omega
    · omega
    · refine zJ9_floorDiv_f86c9_27 ?_
      rw [show -(-x / 100) = x / 100 by omega]; exact k
    · rw [show -(-x / 100) - 1 = x / 100 by omega]; exact k
/-- nothing but kept rates changed -/
def Sm8 (g g' : mz_S) : Prop := ∀ q, q ≠ 8 → g' q = g q
theorem Sm8.rf (g : mz_S) : Sm8 g g := fun _ _ => rfl
theorem Sm8.tr {g g' g2 : mz_S} (h : Sm8 g g') (h2 : Sm8 g' g2) : Sm8 g g2 := fun q hq => (h2 q hq).trans (h q hq)
theorem rateC_same {g g' : mz_S} (h : ∀ q, q ∈ [1, 3, 4, 5, 6, 7] → g' q = g q) (t c dy : Int) : rateC g' t c dy = rateC g t c dy := by
  unfold rateC lgC
  rw [h 1 (by decide), h 3 (by decide), h 4 (by decide), h 5 (by decide), h 6 (by decide), h 7 (by decide)]
theorem Sm8.rate {g g' : mz_S} (h : Sm8 g g') (t c dy : Int) : rateC g' t c dy = rateC g t c dy := rateC_same (fun q hq => h q (by intro e; subst e; revert hq; decide)) t c dy
theorem Sm8.worth {g g' : mz_S} (h : Sm8 g g') (n c t : Int) : worthC g' n c t = worthC g n c t := by unfold worthC; rw [h.rate, h 1 (by decide)]
theorem Sm8.wf0 {g g' : mz_S} (h : Sm8 g g') (w : WfL0 g) : WfL0 g' := by
  unfold WfL0
  rw [h 1 (by decide), h 3 (by decide), h 4 (by decide), h 5 (by decide), h 6 (by decide), h 7 (by decide)]
  exact w
theorem sX5_worthNow {T : Nat × (Nat → Int32)} {d : Nat} {Q : mz_K} {X : mz_X} {g : mz_S} {n c t : Int} (w : WfL g) (hn : -9000000000000000 ≤ n ∧ n ≤ 9000000000000000) (hc : 0 ≤ c ∧ c < 4) (ht : 0 ≤ t ∧ t < 8) (k : ∀ g', Sm8 g g' → WfL g' → Q (worthC g n c t) g') : zC T (d + 2) 80 [mx_R 1, mx_J n, mx_I c, mx_I t] g Q X := by
  have hr := rateC_rng w.1 t c (g 1 0)
  have now := w.1.1
  have fin : ∀ g' : mz_S, Sm8 g g' → WfL g' → g' 8 (t * 4 + c).toNat = rateC g t c (g 1 0) → aX5_worthNow T (d + 1) Q X 36 [some (mx_R 1), some (mx_J n), none, some (mx_I c), some (mx_I t), some (mx_I (t * 4 + c))] [] g' (0, 0) := by
    intro g' h1 h2 h3
    refine zX5_worthNow_36 ?_
    refine s_in ?_ (fun ea => ?_)
    · omega
    try simp only [ea]
    clear ea
    rw [h3, w32_of (by omega) (by omega)]
    have hb : -9000000000000000 * 1000 ≤ n * rateC g t c (g 1 0) ∧ n * rateC g t c (g 1 0) ≤ 9000000000000000 * 1000 := by
      rcases Int.lt_or_le n 0 with z | z
      · have a1 : n * rateC g t c (g 1 0) ≤ 0 := Int.mul_nonpos_of_nonpos_of_nonneg (by omega) (by omega)
        have a2 : (-n) * rateC g t c (g 1 0) ≤ 9000000000000000 * 1000 := Int.mul_le_mul (by omega) (by omega) (by omega) (by omega)
        rw [Int.neg_mul] at a2
        omega
      · have a1 : 0 ≤ n * rateC g t c (g 1 0) := Int.mul_nonneg z (by omega)
        have a2 : n * rateC g t c (g 1 0) ≤ 9000000000000000 * 1000 := Int.mul_le_mul (by omega) (by omega) (by omega) (by omega)
        omega
    exact sJ9_floorDiv (by omega) (k g' h1 h2)
  refine zX5_worthNow ?_
  refine s_in ?_ (fun ea => ?_)
  · omega
  try simp only [ea]
  clear ea
  have hp : (t * 4 + c).toNat = t.toNat * 4 + c.toNat := by omega
  have hw := w.2 t.toNat c.toNat (by omega) (by omega)
  rw [← hp, show ((t.toNat : Nat) : Int) = t by omega, show ((c.toNat : Nat) : Int) = c by omega] at hw
  first | refine c_lt ?_ ?_ (fun h => ?_) (fun h => ?_) | refine c_le ?_ ?_ (fun h => ?_) (fun h => ?_) | refine c_eq ?_ ?_ (fun h => ?_) (fun h => ?_) | refine c_ne ?_ ?_ (fun h => ?_) (fun h => ?_)
  · omega
  · omega
  · exact fin g (Sm8.rf g) w (by rcases hw with z | z; exact absurd z h; exact z)
  · refine sX5_rateHeard w.1 ht hc now ?_
    refine s_in ?_ (fun ea => ?_)
    · omega
    try simp only [ea]
    clear ea
    rintro _ rfl
    obtain ⟨g2, hg2⟩ : ∃ g2, g2 = mx_up g 8 (t * 4 + c).toNat (rateC g t c (g 1 0)) := ⟨_, rfl⟩
    rw [← hg2]
    have s : Sm8 g g2 := fun q hq => by rw [hg2]; funext i; exact up_q hq
    have v : g2 8 (t * 4 + c).toNat = rateC g t c (g 1 0) := by rw [hg2]; exact up_s
    refine fin g2 s ⟨s.wf0 w.1, fun t' c' h1 h2 => ?_⟩ v
    rw [s.rate, s 1 (by decide)]
    rcases Nat.lt_trichotomy (t' * 4 + c') (t * 4 + c).toNat with z | z | z
    · have := w.2 t' c' h1 h2
      have e : g2 8 (t' * 4 + c') = g 8 (t' * 4 + c') := by rw [hg2]; exact up_i (by omega)
      rw [e]; exact this
    · rw [z, v]
      rw [show (t' : Int) = t by omega, show (c' : Int) = c by omega]
      exact Or.inr rfl
    · have := w.2 t' c' h1 h2
      have e : g2 8 (t' * 4 + c') = g 8 (t' * 4 + c') := by rw [hg2]; exact up_i (by omega)
      rw [e]; exact this
