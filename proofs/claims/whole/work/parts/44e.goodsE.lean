/-! the call goods -/
theorem WfL0.ch {S F : List Nat} {g g' : mz_S} (w : WfL0 g) (h : Ch S F g g') (hS : ∀ q ∈ [1, 3, 4, 5, 6, 7], q ∉ S) : WfL0 g' := by
  have e : ∀ q ∈ [1, 3, 4, 5, 6, 7], g' q = g q := fun q hq => h.1 q (hS q hq) (by intro z; subst z; revert hq; decide)
  unfold WfL0 at w ⊢
  rw [e 1 (by decide), e 3 (by decide), e 4 (by decide), e 5 (by decide), e 6 (by decide), e 7 (by decide)]
  exact w
theorem WfL.ch {S F : List Nat} {g g' : mz_S} (w : WfL g) (h : Ch S F g g') (hS : ∀ q ∈ [1, 3, 4, 5, 6, 7, 8], q ∉ S) : WfL g' := ⟨w.1.ch h (fun q hq => hS q (by revert hq; revert q; decide)), w.2.fr h hS⟩
theorem rateC_ch {S F : List Nat} {g g' : mz_S} (h : Ch S F g g') (hS : ∀ q ∈ [1, 3, 4, 5, 6, 7], q ∉ S) (t c dy : Int) : rateC g' t c dy = rateC g t c dy := rateC_same (fun q hq => h.1 q (hS q hq) (by intro z; subst z; revert hq; decide)) t c dy
theorem worthC_ch {S F : List Nat} {g g' : mz_S} (h : Ch S F g g') (hS : ∀ q ∈ [1, 3, 4, 5, 6, 7], q ∉ S) (n c t : Int) : worthC g' n c t = worthC g n c t := by
  unfold worthC
  rw [rateC_ch h hS, h.1 1 (hS 1 (by decide)) (by decide)]
theorem recS_ch (g : mz_S) (t a b c n s : Int) : Ch [15, 16, 17, 18, 19, 20, 21, 22, 23] [] g (recS g t a b c n s) := by
  unfold recS
  repeat' first | exact Ch.rf g | refine Ch.up ?_ (by decide) (by decide)
def hidV (g : mz_S) (b co kd n p : Int) : Int := worthC g (n * p) co (g 10 b.toNat) - n * g 24 (g 10 b.toNat * 4 + kd).toNat
theorem np_rng {n p : Int} (hn : 1 ≤ n ∧ n ≤ 100) (hp : 0 ≤ p ∧ p ≤ 10000) : 0 ≤ n * p ∧ n * p ≤ 100 * p := ⟨Int.mul_nonneg (by omega) (by omega), Int.mul_le_mul_of_nonneg_right (by omega) (by omega)⟩
theorem sX6_sendGoods {T : Nat × (Nat → Int32)} {d : Nat} {Q : mz_K} {X : mz_X} {g : mz_S} {a b co kd n p : Int} (wl : WfL g) (wb : WfB g) (w : WfG g) (ha : 0 ≤ a ∧ a < 12) (hb : 0 ≤ b ∧ b < 12) (hc : 0 ≤ co ∧ co < 4) (hk : 0 ≤ kd ∧ kd < 4) (hn : 1 ≤ n ∧ n ≤ 100) (hp : 0 ≤ p ∧ p ≤ 1000) (hm : 0 ≤ g 15 2 ∧ g 15 2 < 400) (k : ∀ g2, Sm8 (recS g (g 10 b.toNat) a b co (-(n * p)) 2) g2 → WfL g2 → Q 0 (mx_up g2 25 (a * 12 + b).toNat (g 25 (a * 12 + b).toNat + hidV g b co kd n p))) : zC T (d + 3) 91 [mx_R 15, mx_I a, mx_I b, mx_I co, mx_I kd, mx_I n, mx_I p] g Q X := by
  have ht := (wb.2.1 b.toNat (by omega)).1
  have hnp := np_rng hn (p := p) (by omega)
  have hmk := w.2.2.2 (g 10 b.toNat * 4 + kd).toNat (by omega)
  have rc := recS_ch g (g 10 b.toNat) a b co (-(n * p)) 2
  refine zX6_sendGoods ?_
  refine s_in ?_ (fun ea => ?_)
  · omega
  try simp only [ea]
  clear ea
  refine sX6_record hm ha hb hc (by omega) ?_
  refine s_in ?_ (fun ea => ?_)
  · omega
  try simp only [ea]
  clear ea
  rw [w32_of (n := n * p) (by omega) (by omega)]
  refine sX5_worthNow (wl.ch rc (by decide)) (by omega) hc ht (fun g2 s w2 => ?_)
  refine s_in ?_ (fun ea => ?_)
  · omega
  try simp only [ea]
  clear ea
  refine s_in ?_ (fun ea => ?_)
  · omega
  try simp only [ea]
  clear ea
  rintro _ rfl
  rw [worthC_ch rc (by decide), s 24 (by decide), rc.1 24 (by decide) (by decide), rc.1 25 (by decide) (by decide), w32_of (n := n) (by omega) (by omega), w32_of (n := g 24 (g 10 b.toNat * 4 + kd).toNat) (by omega) (by omega)]
  exact k g2 s w2
theorem goodsE {g g2 S3 : mz_S} {a b co m : Nat} {n hv x : Int} (wl : IL g) (wb : IB g) (w : IE g) (em : g 15 2 = m) (hm : m < 400) (ha : a < 12) (hb : b < 12) (hc : co < 4) (hab : a ≠ b) (hn : 0 ≤ n ∧ n ≤ 100000) (s : Sm8 (recS g (g 10 b) a b co (-n) 2) g2) (e3 : S3 = mx_up (entS (mx_up (mx_up (mx_up g2 25 (a * 12 + b) (g 25 (a * 12 + b) + hv)) 179 0 x) 99 0 0) (g 10 b) a b co (-n) 2) 118 m hv) : IE S3 := by
  have x3 : (((a : Int) * 12 + b) * 4 + co).toNat = (a * 12 + b) * 4 + co := by omega
  have x4 : (((b : Int) * 12 + a) * 4 + co).toNat = (b * 12 + a) * 4 + co := by omega
  have hab' : ¬ (a : Int) = b := by omega
  have r16 : g 99 16 = m := by rw [w.2.2.1.1, em]
  have rn : g 99 1 = g 1 0 := wl.2.2.1.1
  have s99 : g2 99 16 = m := by rw [s 99 (by decide)]; simp [recS, up_at]; exact r16
  have s991 : g2 99 1 = g 1 0 := by rw [s 99 (by decide)]; simp [recS, up_at]; exact rn
  have e : ∀ q, q ≠ 118 → q ≠ 99 → S3 q = entS (mx_up (mx_up (mx_up g2 25 (a * 12 + b) (g 25 (a * 12 + b) + hv)) 179 0 x) 99 0 0) (g 10 b) a b co (-n) 2 q := by
    intro q h1 h2
    rw [e3, up_at, if_neg h1]
  have ec : ∀ q, q ∈ [13, 15, 16, 17, 18, 19, 20, 21, 22, 23, 24] → S3 q = recS g (g 10 b) a b co (-n) 2 q := by
    intro q hq
    have hne : q ≠ 118 ∧ q ≠ 99 ∧ q ≠ 111 ∧ q ≠ 112 ∧ q ≠ 113 ∧ q ≠ 114 ∧ q ≠ 115 ∧ q ≠ 116 ∧ q ≠ 117 ∧ q ≠ 25 ∧ q ≠ 179 ∧ q ≠ 8 := by revert hq; revert q; decide
    rw [e q hne.1 hne.2.1]
    simp only [entS, up_at]
    rw [if_neg hne.2.1, if_neg hne.1, if_neg hne.2.2.2.2.2.2.2.2.1, if_neg hne.2.2.2.2.2.2.2.1, if_neg hne.2.2.2.2.2.2.1, if_neg hne.2.2.2.2.2.1, if_neg hne.2.2.2.2.1, if_neg hne.2.2.2.1, if_neg hne.2.2.1, if_neg hne.2.1, if_neg hne.2.2.2.2.2.2.2.2.2.2.1, if_neg hne.2.2.2.2.2.2.2.2.2.1]
    exact s q hne.2.2.2.2.2.2.2.2.2.2.2
  have q13 : S3 13 = g 13 := by rw [ec 13 (by decide)]; simp [recS, up_at]
  have q15 : S3 15 2 = m + 1 := by rw [ec 15 (by decide)]; simp [recS, up_at, lset, em]
  have nb := w.2.2.2.1 a b co ha hb hc
  have mo := nbB_mono (g := g) (g2 := S3) (m := m) (fun i _ z => by rw [q13]; exact z) em q15 (x := a) (y := b) ha hb co
  have ps := nbB_pos (g := g) (by omega) a b co
  refine w.rec (m := m) (a := a) (b := b) (co := co) (t := g 10 b) (n := -n) (s := 2) (hd := hv) (now := g 1 0) em hm wl.1.1 (wb.1.2.1 b hb).1 ha hb hab hc (by omega) (by omega) (fun i _ z => by rw [q13]; exact z) q15 ?_ ?_ ?_ ?_ ?_ ?_ ?_ ?_ ?_ ?_ ?_ ?_ ?_ ?_ ?_ ?_ ?_ ?_ ?_ ?_ (by omega)
  · rw [ec 16 (by decide)]; simp [recS, up_at, em]
  · rw [ec 17 (by decide)]; simp [recS, up_at, em]
  · rw [ec 18 (by decide)]; simp [recS, up_at, em]
  · rw [ec 19 (by decide)]; simp [recS, up_at, em]
  · rw [ec 20 (by decide)]; simp [recS, up_at, em]
  · rw [ec 21 (by decide)]; simp [recS, up_at, em]
  · rw [ec 22 (by decide)]; simp [recS, up_at, em]
  · rw [ec 23 (by decide)]; simp [recS, up_at, x3, x4, hab', netC]
  · rw [ec 24 (by decide)]; simp [recS, up_at]
  · rw [if_pos rfl, e 25 (by decide) (by decide)]
    simp [entS, up_at]
    rw [s 25 (by decide)]
    simp [recS, up_at]
  · rw [e3]; simp [entS, up_at, lset, s99]
  all_goals (rw [e3]; simp [entS, up_at, lset, s99, s991])
  all_goals (rw [s _ (by decide)]; simp [recS, up_at])
  funext i
  simp only [lset]
  split <;> simp_all
