/-! ruin: the class -/
def ruN (c : mz_S) (nt : Nat) (al : Nat → List pA) (m : Nat) (S : Nat → Bool) (x : Nat) : Bool := S x || (decide (x < m) && decide (w64 (weF c nt al m S x) < 0))
def ruS0 (c : mz_S) (m y : Nat) (i : Nat) : Bool := decide (i < m ∧ ¬ c 13 i = -1) || decide (i = y)
def ruSs (c : mz_S) (nt : Nat) (al : Nat → List pA) (m y : Nat) : Nat → Nat → Bool
  | 0 => ruS0 c m y
  | k + 1 => ruN c nt al m (ruSs c nt al m y k)
def fxP (c : mz_S) (nt : Nat) (al : Nat → List pA) (m : Nat) (S : Nat → Bool) : Prop := ∀ x, x < m → S x = false → ¬ w64 (weF c nt al m S x) < 0
theorem cnW_grow {S S' : Nat → Bool} {m b : Nat} (h : ∀ x, x < m → S x = true → S' x = true) (hb : b < m) (h0 : S b = false) (h1 : S' b = true) : cnW S m + 1 ≤ cnW S' m := by
  have mono : ∀ n, n ≤ m → cnW S n + (if b < n then 1 else 0) ≤ cnW S' n := by
    intro n
    induction n with
    | zero => intro _; show (0 : Int) + _ ≤ 0; rw [if_neg (by omega)]; omega
    | succ n ih =>
      intro hn
      have ih := ih (by omega)
      have e : cnW S (n + 1) = cnW S n + (if S n = true then 1 else 0) := rfl
      have e2 : cnW S' (n + 1) = cnW S' n + (if S' n = true then 1 else 0) := rfl
      rw [e, e2]
      by_cases z : n = b
      · subst z
        have j1 : (if S n = true then (1 : Int) else 0) = 0 := by rw [h0]; rfl
        have j2 : (if S' n = true then (1 : Int) else 0) = 1 := if_pos h1
        have j3 : (if n < n + 1 then (1 : Int) else 0) = 1 := if_pos (by omega)
        have j4 : (if n < n then (1 : Int) else 0) = 0 := if_neg (by omega)
        omega
      · have i1 : (if b < n + 1 then (1 : Int) else 0) = (if b < n then 1 else 0) := by
          by_cases q : b < n
          · rw [if_pos q, if_pos (by omega)]
          · rw [if_neg q, if_neg (by omega)]
        rw [i1]
        have : (if S n = true then (1 : Int) else 0) ≤ (if S' n = true then 1 else 0) := by
          by_cases q : S n = true
          · rw [if_pos q, if_pos (h n (by omega) q)]; omega
          · rw [if_neg q]; split <;> omega
        omega
  have := mono m (Nat.le_refl _)
  rw [if_pos hb] at this
  exact this
theorem fx_grow {c : mz_S} {nt m : Nat} {al : Nat → List pA} {S : Nat → Bool} (h : ¬ fxP c nt al m S) : cnW S m + 1 ≤ cnW (ruN c nt al m S) m := by
  have : ∃ x, x < m ∧ S x = false ∧ w64 (weF c nt al m S x) < 0 := by
    refine Classical.byContradiction (fun q => h (fun x hx h0 h1 => q ⟨x, hx, h0, h1⟩))
  obtain ⟨b, hb, h0, h1⟩ := this
  exact cnW_grow (fun x _ hx => by unfold ruN; rw [hx]; rfl) hb h0 (by unfold ruN; simp [hb, h1])
theorem ru_cn {c : mz_S} {nt m y : Nat} {al : Nat → List pA} (hy : y < m) : ∀ R : Nat, (∀ i, i < R → ¬ fxP c nt al m (ruSs c nt al m y i)) → 1 + (R : Int) ≤ cnW (ruSs c nt al m y R) m := by
  intro R
  induction R with
  | zero =>
    intro _
    have := cnW_grow (S := fun _ => false) (S' := ruS0 c m y) (m := m) (b := y) (fun x _ h => absurd h Bool.false_ne_true) hy rfl (by unfold ruS0; simp)
    have p : 0 ≤ cnW (fun _ => false) m := sumN_pos (fun x _ => by show (0 : Int) ≤ (if false = true then 1 else 0); rw [if_neg Bool.false_ne_true]; omega)
    show 1 + ((0 : Nat) : Int) ≤ cnW (ruS0 c m y) m
    omega
  | succ R ih =>
    intro h
    have := ih (fun i hi => h i (by omega))
    have g := fx_grow (h R (by omega))
    show 1 + ((R + 1 : Nat) : Int) ≤ cnW (ruN c nt al m (ruSs c nt al m y R)) m
    omega
theorem ru_lt {c : mz_S} {nt m y R : Nat} {al : Nat → List pA} (hy : y < m) (h : ∀ i, i < R → ¬ fxP c nt al m (ruSs c nt al m y i)) : R < m := by
  have := ru_cn hy R h
  have := cnW_le (W := ruSs c nt al m y R) m
  omega
theorem ru_uniq {c : mz_S} {nt m y R R' : Nat} {al : Nat → List pA} (h : ∀ i, i < R → ¬ fxP c nt al m (ruSs c nt al m y i)) (f : fxP c nt al m (ruSs c nt al m y R)) (h' : ∀ i, i < R' → ¬ fxP c nt al m (ruSs c nt al m y i)) (f' : fxP c nt al m (ruSs c nt al m y R')) : R = R' := by
  rcases Nat.lt_trichotomy R R' with z | z | z
  · exact absurd f (h' R z)
  · exact z
  · exact absurd f' (h R' z)
theorem nx_bits {c : mz_S} {nt m : Nat} {al : Nat → List pA} {S : Nat → Bool} {v : Int} (hm : m ≤ 12) (hS : ∀ i, 32 ≤ i → S i = false) (h : ∀ i, i < 32 → (zb v i = true ↔ S i = true ∨ (i < m ∧ w64 (weF c nt al m S i) < 0))) : zb v = ruN c nt al m S := by
  funext i
  rcases Nat.lt_or_ge i 32 with hi | hi
  · refine Bool.eq_iff_iff.mpr ((h i hi).trans ?_)
    unfold ruN
    rw [Bool.or_eq_true, Bool.and_eq_true, decide_eq_true_iff, decide_eq_true_iff]
  · unfold ruN
    rw [zb_big hi, hS i hi, decide_eq_false (by omega)]
    rfl
theorem sX4_bringDown {T : Nat × (Nat → Int32)} {d : Nat} {Q : mz_K} {X : mz_X} {g : mz_S} {c : mz_S} {nt m y : Nat} {al : Nat → List pA} {W : Int} (wlc : WfL0 c) (wb : WfB c) (ie : IE c) (tw : TxW c nt al) (em : c 9 1 = (m : Int)) (hy : y < m) (es : ES c W g) (hW : 0 ≤ W ∧ W < 2147470000) (k : ∀ g' (R : Nat), ES c (W + 1728) g' → (∀ i, i < R → ¬ fxP c nt al m (ruSs c nt al m y i)) → fxP c nt al m (ruSs c nt al m y R) → zb (g' 86 15) = ruSs c nt al m y R → g' 86 16 = (R : Int) → Q 0 g') : zC T (d + 9) 65 [mx_R 86, mx_I (y : Int)] g Q X := by
  have hw := wb.1
  refine zX4_bringDown ?_
  intro g1 e1 g2 e2
  have es2 : ES c W g2 := by rw [e2, e1]; exact (es.up (by decide)).up (by decide)
  refine sX0_fallenSet (d := d + 6) (es2.wb wb) (fun S _ _ hS => ?_)
  intro g4 e4
  have es4 : ES c W g4 := by rw [e4]; exact es2.up (by decide)
  have main : ∀ n t : Nat, t + n = 12 → ∀ G o3 o4, ES c (W + 144 * (t : Int)) G → CaE c nt al m G → zb (G 86 15) = ruSs c nt al m y t → G 86 16 = (t : Int) → (∀ i, i < t → ¬ fxP c nt al m (ruSs c nt al m y i)) → aX4_bringDown T (d + 8) Q X 27 [some (mx_R 86), some (mx_I (y : Int)), some (mx_I (t : Int)), o3, o4] [] G (0, 0) := by
    intro n
    induction n with
    | zero =>
      intro t ht G o3 o4 esG caG hD h16 hn
      have := ru_lt hy hn
      omega
    | succ n ih =>
      intro t ht G o3 o4 esG caG hD h16 hn
      refine zX4_bringDown_27 ?_
      first | with_reducible refine c_lt ?_ ?_ (fun z => ?_) (fun z => ?_) | with_reducible refine c_le ?_ ?_ (fun z => ?_) (fun z => ?_) | with_reducible refine c_eq ?_ ?_ (fun z => ?_) (fun z => ?_) | with_reducible refine c_ne ?_ ?_ (fun z => ?_) (fun z => ?_)
      · omega
      · omega
      · omega
      · refine sX4_measureWealth (d := d) (D := G 86 15) wlc wb ie tw em esG caG rfl (by omega) (fun G2 es2 ca2 f86 h94 => ?_)
        rw [hD] at h94
        have e15 : G2 86 15 = G 86 15 := f86 15 (by decide)
        have inner : ∀ b s : Nat, s + b = m → ∀ v, StP v (fun x => x < s ∧ ruSs c nt al m y t x = false ∧ w64 (weF c nt al m (ruSs c nt al m y t) x) < 0) → aX4_bringDown T (d + 8) Q X 42 [some (mx_R 86), some (mx_I (y : Int)), some (mx_I (t : Int)), some (mx_I v), some (mx_I (s : Int))] [] G2 (0, 0) := by
          intro b
          induction b with
          | zero =>
            intro s hs v hv
            refine zX4_bringDown_42 ?_
            rw [es2.em, em]
            have : s = m := by omega
            subst this
            first | with_reducible refine c_lt ?_ ?_ (fun z3 => ?_) (fun z3 => ?_) | with_reducible refine c_le ?_ ?_ (fun z3 => ?_) (fun z3 => ?_) | with_reducible refine c_eq ?_ ?_ (fun z3 => ?_) (fun z3 => ?_) | with_reducible refine c_ne ?_ ?_ (fun z3 => ?_) (fun z3 => ?_)
            · omega
            · omega
            · refine ⟨fun nz => ?_, fun nz => ?_⟩
              · intro G3 e3 G4 e4
                rw [show (t : Int) + 1 = ((t + 1 : Nat) : Int) by omega]
                have es4 : ES c (W + 144 * ((t + 1 : Nat) : Int)) G4 := by
                  rw [e4, e3]
                  exact ((es2.up (by decide)).up (by decide)).wk (by omega)
                have nfx : ¬ fxP c nt al s (ruSs c nt al s y t) := fun f => nz (by
                  rw [w32_0]
                  exact hv.nz.mpr (fun i hi hp => f i hp.1 hp.2.1 hp.2.2))
                refine ih (t + 1) (by omega) G4 _ _ es4 (fun q hq hb => ?_) ?_ ?_ (fun i hi => ?_)
                · have x5 : G4 86 5 = G2 86 5 := by rw [e4, up_i (by decide), e3, up_i (by decide)]
                  rw [x5] at hb
                  intro x hx
                  rw [e4, up_q (by decide), up_q (by decide), e3, up_q (by decide), up_q (by decide)]
                  exact ca2 q hq hb x hx
                · show zb (G4 86 15) = ruN c nt al s (ruSs c nt al s y t)
                  refine nx_bits (by omega) (fun i hi => by rw [← hD, zb_big hi]) (fun i hi => ?_)
                  rw [e4, up_i (by decide), e3, up_s, zb_ior, e15, hD, Bool.or_eq_true, hv i hi]
                  constructor
                  · rintro (h | h)
                    · exact Or.inl h
                    · exact Or.inr ⟨h.1, h.2.2⟩
                  · rintro (h | h)
                    · exact Or.inl h
                    · cases hh : ruSs c nt al s y t i with
                      | true => exact Or.inl rfl
                      | false => exact Or.inr ⟨h.1, hh, h.2⟩
                · rw [e4, up_s, e3, up_i (by decide), f86 16 (by decide), h16]
                  omega
                · by_cases e : i = t
                  · rw [e]; exact nfx
                  · exact hn i (by omega)
              · have nz : w32 v = w32 0 := Decidable.not_not.mp nz
                rw [w32_0] at nz
                refine k G2 t (es2.wk (by omega)) hn (fun x hx h0 h1 => hv.nz.mp nz x (by omega) ⟨hx, h0, h1⟩) (by rw [e15, hD]) (by rw [f86 16 (by decide), h16])
            · omega
          | succ b ihb =>
            intro s hs v hv
            have no : ¬ (ruSs c nt al m y t s = false ∧ w64 (weF c nt al m (ruSs c nt al m y t) s) < 0) → aX4_bringDown T (d + 8) Q X 86 [some (mx_R 86), some (mx_I (y : Int)), some (mx_I (t : Int)), some (mx_I v), some (mx_I (s : Int))] [mx_I v] G2 (0, 0) := by
              intro q
              refine zX4_bringDown_86 (zX4_bringDown_87 ?_)
              rw [show (s : Int) + 1 = ((s + 1 : Nat) : Int) by omega]
              refine ihb (s + 1) (by omega) _ (hv.or0.cg (fun i hi => ?_))
              constructor
              · rintro ⟨x1, x2⟩; exact ⟨by omega, x2⟩
              · rintro ⟨x1, x2⟩
                refine ⟨?_, x2⟩
                by_cases e : i = s
                · subst e; exact absurd x2 q
                · omega
            refine zX4_bringDown_42 ?_
            rw [es2.em, em, e15]
            first | with_reducible refine c_lt ?_ ?_ (fun z3 => ?_) (fun z3 => ?_) | with_reducible refine c_le ?_ ?_ (fun z3 => ?_) (fun z3 => ?_) | with_reducible refine c_eq ?_ ?_ (fun z3 => ?_) (fun z3 => ?_) | with_reducible refine c_ne ?_ ?_ (fun z3 => ?_) (fun z3 => ?_)
            · omega
            · omega
            · omega
            · refine sX11_holds (by omega) ?_
              rw [hD]
              first | with_reducible refine b_eq (fun h1 => ?_) (fun h1 => ?_) | with_reducible refine b_ne (fun h1 => ?_) (fun h1 => ?_)
              · exact no (fun q => by rw [h1] at q; exact absurd q.1 (by decide))
              · refine s_inN ?_ (fun ea => ?_)
                · omega
                try simp only [ea]
                clear ea
                rw [h94 s (by omega)]
                have h1' : ruSs c nt al m y t s = false := by simpa using h1
                refine ⟨fun q => no (fun r => ?_), fun q => ?_⟩
                · have := lc_ge.mp q
                  rw [show w64 0 = 0 by decide] at this
                  omega
                · have q' : ¬ w64 0 ≤ w64 (weF c nt al m (ruSs c nt al m y t) s) := fun r => q (lc_ge.mpr r)
                  rw [show w64 0 = 0 by decide] at q'
                  refine zX4_bringDown_87 ?_
                  rw [show (s : Int) + 1 = ((s + 1 : Nat) : Int) by omega]
                  refine ihb (s + 1) (by omega) _ ((hv.or (k := s) (by omega)).cg (fun i hi => ?_))
                  constructor
                  · rintro (⟨x1, x2⟩ | rfl)
                    · exact ⟨by omega, x2⟩
                    · exact ⟨by omega, h1', by omega⟩
                  · rintro ⟨x1, x2⟩
                    by_cases e : i = s
                    · exact Or.inr e
                    · exact Or.inl ⟨by omega, x2⟩
        rw [show (0 : Int) = ((0 : Nat) : Int) from rfl]
        exact inner m 0 (by omega) _ (StP.zero.cg (fun i _ => ⟨fun z => z.elim, fun z => by omega⟩))
  rw [show (0 : Int) = ((0 : Nat) : Int) from rfl]
  refine main 12 0 (by omega) g4 _ _ (es4.wk (by omega)) (CaE.zero (by rw [e4, up_i (by decide), e2, up_i (by decide), e1, up_s])) ?_ (by rw [e4, up_i (by decide), e2, up_s]; rfl) (fun i hi => absurd hi (Nat.not_lt_zero i))
  rw [e4, up_s]
  funext i
  show _ = ruS0 c m y i
  unfold ruS0
  rcases Nat.lt_or_ge i 32 with hi | hi
  · rw [zb_ior, zb_bit (by omega) hi, hS i hi, es2.em, es2.1.1 13 (by decide) (by decide), em]
    congr 1
    exact decide_eq_decide.mpr (by omega)
  · rw [zb_big hi, decide_eq_false (by omega), decide_eq_false (by omega)]
    rfl
