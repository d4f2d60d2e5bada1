/-! the names -/
theorem vrun_cg {nm nm' : Nat → Int} {l : List (Int × Int)} (h : ∀ i, i < 9 → nm i = nm' i) : ∀ n i s, vrun nm l n i s = vrun nm' l n i s := by
  intro n
  induction n with
  | zero => intro i s; rfl
  | succ n ih =>
    intro i s
    unfold vrun
    simp only [ih]
    by_cases z : 136 ≤ (l.getD i (0, 0)).1 ∧ (l.getD i (0, 0)).1 ≤ 144
    · rw [h ((l.getD i (0, 0)).1 - 136).toNat (by omega)]
    · simp only [if_neg z]
theorem vgo_cg {nm nm' : Nat → Int} {l : List (Int × Int)} (h : ∀ i, i < 9 → nm i = nm' i) : vgo nm l = vgo nm' l := vrun_cg h _ _ _
theorem askP_cg {nm nm' : Nat → Int} {cn : Nat → pA} {M s : Nat} (h : ∀ i, i < 9 → nm i = nm' i) : ∀ p, askP nm cn M s p = askP nm' cn M s p := by
  intro p
  induction p with
  | zero => rfl
  | succ p ih =>
    have e1 : spk nm (cn p) ↔ spk nm' (cn p) := by unfold spk; rw [vgo_cg h, vgo_cg h]
    have e2 : spv nm (cn p) = spv nm' (cn p) := by unfold spv; rw [vgo_cg h]
    unfold askP
    rw [ih, e2]
    by_cases z : (cn p).2.1 = (s : Int) ∧ ¬ vd cn M p ∧ spk nm (cn p)
    · rw [if_pos z, if_pos ⟨z.1, z.2.1, e1.mp z.2.2⟩]
    · rw [if_neg z, if_neg (fun y => z ⟨y.1, y.2.1, e1.mpr y.2.2⟩)]
def nmF (g : mz_S) (a b : Nat) (n coin : Int) (i : Nat) : Int := if i = 0 then n else if i = 1 then w32 coin else if i = 2 then w32 (g 3 (g 10 a * 8 + g 10 b).toNat) else if i = 3 then w32 ((g 1 0 - g 12 a) / 90) else if i = 4 then (if g 11 a = g 11 b then 1 else 0) else if i = 5 then w32 (g 1 0) else if i = 6 then w32 (mx_irem (mx_idiv (g 1 0) 90) 4) else if i = 7 then w32 (g 10 a) else w32 (g 10 b)
theorem WfB.ch {S F : List Nat} {g g' : mz_S} (w : WfB g) (h : Ch S F g g') (hS : ∀ q ∈ [1, 9, 10, 11, 12, 13, 14], q ∉ S) : WfB g' := by
  have e : ∀ q ∈ [1, 9, 10, 11, 12, 13, 14], g' q = g q := fun q hq => h.1 q (hS q hq) (by intro z; subst z; revert hq; decide)
  unfold WfB at w ⊢
  rw [e 1 (by decide), e 9 (by decide), e 10 (by decide), e 11 (by decide), e 12 (by decide), e 13 (by decide), e 14 (by decide)]
  exact w
theorem sX3_setNames {T : Nat × (Nat → Int32)} {d : Nat} {Q : mz_K} {X : mz_X} {g : mz_S} {a b : Nat} {n coin : Int} (wl : WfL0 g) (wb : WfB g) (ha : a < 12) (hb : b < 12) (k : ∀ g', Ch [45] [] g g' → (∀ i, i < 9 → g' 45 i = nmF g a b n coin i) → Q 0 g') : zC T (d + 4) 44 [mx_R 39, mx_I (a : Int), mx_I (b : Int), mx_J n, mx_I coin] g Q X := by
  have ra := wb.2.1 a ha
  have rb := wb.2.1 b hb
  refine zX3_setNames ?_
  refine s_inE (0) ?_ ?_ (fun ea => ?_)
  · omega
  · omega
  try simp only [ea]
  clear ea
  intro g1 e1
  refine s_inE (1) ?_ ?_ (fun ea => ?_)
  · omega
  · omega
  try simp only [ea]
  clear ea
  intro g2 e2
  have c2 : Ch [45] [] g g2 := by rw [e2, e1]; exact ((Ch.rf g).up (by decide) (by decide)).up (by decide) (by decide)
  refine sX0_lagTo (d := d + 1) (wb.ch c2 (by decide)) (by omega) (by omega) ?_
  rw [c2.1 3 (by decide) (by decide), c2.1 10 (by decide) (by decide), show ((a : Int)).toNat = a by omega, show ((b : Int)).toNat = b by omega]
  refine s_inE (2) ?_ ?_ (fun ea => ?_)
  · omega
  · omega
  try simp only [ea]
  clear ea
  intro g4 e4
  have c4 : Ch [45] [] g g4 := by rw [e4]; exact c2.up (by decide) (by decide)
  refine sX0_seasons (d := d + 2) (wl.ch c4 (by decide)) (wb.ch c4 (by decide)) (by omega) ?_
  rw [c4.1 1 (by decide) (by decide), c4.1 12 (by decide) (by decide), show ((a : Int)).toNat = a by omega]
  refine s_inE (3) ?_ ?_ (fun ea => ?_)
  · omega
  · omega
  try simp only [ea]
  clear ea
  intro g6 e6
  have c6 : Ch [45] [] g g6 := by rw [e6]; exact c4.up (by decide) (by decide)
  refine s_inN ?_ (fun ea => ?_)
  · omega
  try simp only [ea]
  clear ea
  refine s_inN ?_ (fun ea => ?_)
  · omega
  try simp only [ea]
  clear ea
  rw [c6.1 11 (by decide) (by decide)]
  have fin : ∀ v : Int, v = (if g 11 a = g 11 b then 1 else 0) → aX3_setNames T (d + 3) Q X 78 [some (mx_R 39), some (mx_I (a : Int)), some (mx_I (b : Int)), some (mx_J n), none, some (mx_I coin)] [mx_J v, mx_I 4, mx_R 45] g6 (0, 0) := by
    intro v hv
    refine zX3_setNames_78 ?_
    refine s_inE (4) ?_ ?_ (fun ea => ?_)
    · omega
    · omega
    try simp only [ea]
    clear ea
    intro h1 f1
    rw [show h1 1 0 = g 1 0 by rw [f1, up_q (by decide), c6.1 1 (by decide) (by decide)]]
    refine s_inE (5) ?_ ?_ (fun ea => ?_)
    · omega
    · omega
    try simp only [ea]
    clear ea
    intro h2 f2
    rw [show h2 1 0 = g 1 0 by rw [f2, up_q (by decide), f1, up_q (by decide), c6.1 1 (by decide) (by decide)]]
    refine ⟨by decide, by decide, ?_⟩
    refine s_inE (6) ?_ ?_ (fun ea => ?_)
    · omega
    · omega
    try simp only [ea]
    clear ea
    intro h3 f3
    refine s_inN ?_ (fun ea => ?_)
    · omega
    try simp only [ea]
    clear ea
    rw [show h3 10 a = g 10 a by rw [f3, up_q (by decide), f2, up_q (by decide), f1, up_q (by decide), c6.1 10 (by decide) (by decide)]]
    refine s_inE (7) ?_ ?_ (fun ea => ?_)
    · omega
    · omega
    try simp only [ea]
    clear ea
    intro h4 f4
    refine s_inN ?_ (fun ea => ?_)
    · omega
    try simp only [ea]
    clear ea
    rw [show h4 10 b = g 10 b by rw [f4, up_q (by decide), f3, up_q (by decide), f2, up_q (by decide), f1, up_q (by decide), c6.1 10 (by decide) (by decide)]]
    refine s_inE (8) ?_ ?_ (fun ea => ?_)
    · omega
    · omega
    try simp only [ea]
    clear ea
    intro h5 f5
    refine k h5 (by rw [f5, f4, f3, f2, f1]; exact ((((c6.up (by decide) (by decide)).up (by decide) (by decide)).up (by decide) (by decide)).up (by decide) (by decide)).up (by decide) (by decide)) (fun i hi => ?_)
    rw [f5, f4, f3, f2, f1, e6, e4, e2, e1, hv]
    rcases (show i = 0 ∨ i = 1 ∨ i = 2 ∨ i = 3 ∨ i = 4 ∨ i = 5 ∨ i = 6 ∨ i = 7 ∨ i = 8 by omega) with z | z | z | z | z | z | z | z | z <;> subst z <;> simp [mx_up, nmF]
  first | with_reducible refine c_lt ?_ ?_ (fun z => ?_) (fun z => ?_) | with_reducible refine c_le ?_ ?_ (fun z => ?_) (fun z => ?_) | with_reducible refine c_eq ?_ ?_ (fun z => ?_) (fun z => ?_) | with_reducible refine c_ne ?_ ?_ (fun z => ?_) (fun z => ?_)
  · omega
  · omega
  · exact fin 0 (by rw [if_neg z])
  · exact fin 1 (by rw [if_pos (by omega)])
