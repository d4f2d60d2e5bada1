/-! the reference's loop -/
theorem opc_op {k : Int} (h : isOp k) : 4 ≤ opcR k ∧ opcR k ≤ 11 := by
  unfold isOp at h
  rcases h with z | z | z | z | z | z | z | z <;> subst z <;> decide
theorem opc_nm {k : Int} (h : 136 ≤ k ∧ k ≤ 144) : opcR k = k - 116 := by
  unfold opcR
  rw [if_neg (by omega), if_neg (by omega), if_neg (by omega), if_neg (by omega), if_neg (by omega), if_neg (by omega), if_neg (by omega), if_neg (by omega), if_neg (by omega), if_neg (by omega), if_neg (by omega), if_neg (by omega)]
  omega
theorem vm_R {T : Nat × (Nat → Int32)} {d : Nat} {Q : mz_K} {X : mz_X} {g0 : mz_S} {l : List (Int × Int)} {ty : Nat → List Bool} {tt B : Nat} {x2 : Int} {b : Bool} (hty : ∀ i, i < l.length → TyR l ty l.length i) (hH : ∀ i, i ≤ l.length → (ty i).length ≤ 14) (hE : ty l.length = [b]) (ht : tt < 6) (hB : B + lenR l ≤ 700) (hc : CodR g0 (700 * tt) B l) (h54 : g0 99 54 = 0) (hk : ∀ r g', VRo g0 g' r (vgo (g0 131) l) → Q r g') : ∀ (n i : Nat) (s : vS) (g : mz_S) (o6 o7 : Option mx_v), l.length < i + n → i ≤ l.length → VR g0 g s → VT (ty i) s → vrun (g0 131) l n i s = vgo (g0 131) l → aX12_worked T (d + 2) Q X 6 [some (mx_R 99), some (mx_I (tt : Int)), some (mx_I x2), some (mx_I ((B + lenR l : Nat) : Int)), some (mx_I (s.1 : Int)), some (mx_I ((B + offR l i : Nat) : Int)), o6, o7] [] g (0, 0) := by
  intro n
  induction n with
  | zero => intro i s g o6 o7 h1 h2; omega
  | succ n ih =>
    intro i s g o6 o7 h1 h2 w wt hv
    have hl := wt.1
    have mo := offR_mono (l := l) (i := i) (j := l.length) h2 (Nat.le_refl _)
    have mo' : offR l i + (l.length - i) ≤ lenR l := mo
    have f54 : g 99 54 = 0 := by rw [w.1.2 54 (by decide)]; exact h54
    refine zX12_worked_6 ?_
    first | with_reducible refine c_lt ?_ ?_ (fun z => ?_) (fun z => ?_) | with_reducible refine c_le ?_ ?_ (fun z => ?_) (fun z => ?_) | with_reducible refine c_eq ?_ ?_ (fun z => ?_) (fun z => ?_) | with_reducible refine c_ne ?_ ?_ (fun z => ?_) (fun z => ?_)
    · omega
    · omega
    · have e : i = l.length := by omega
      subst e
      refine zX12_worked_265 ?_
      refine s_inE (0) ?_ ?_ (fun ea => ?_)
      · omega
      · omega
      try simp only [ea]
      clear ea
      refine hk _ g ?_
      rw [← hv]
      show VRo g0 g _ (if l.length ≤ l.length then (false, s.2) else _)
      rw [if_pos (Nat.le_refl _)]
      refine ⟨w.1.sub (by decide) (by decide), fun z => absurd z (by simp), fun _ => ⟨f54, w.2 0 ?_⟩⟩
      rw [hE] at hl
      have : 1 = s.1 := hl
      omega
    · have hi : i < l.length := by
        rcases Nat.lt_or_ge i l.length with y | y
        · exact y
        · exfalso
          have : i = l.length := by omega
          subst this
          exact z (Int.le_refl _)
      have TY := hty i hi
      have H0 : s.1 ≤ 14 := by rw [← hl]; exact hH i h2
      have CD := hc i hi
      have st := offR_step hi
      have vr : vrun (g0 131) l (n + 1) i s = _ := hv
      unfold vrun at vr
      rw [if_neg (by omega)] at vr
      rw [f54]
      refine ⟨fun z => absurd rfl z, fun _ => ?_⟩
      refine s_inE (700 * tt + B + offR l i) ?_ ?_ (fun ea => ?_)
      · omega
      · omega
      try simp only [ea]
      clear ea
      unfold TyR at TY
      have mo1 := offR_mono (l := l) (i := i + 1) (j := l.length) hi (Nat.le_refl _)
      have mo1' : offR l (i + 1) + (l.length - (i + 1)) ≤ lenR l := mo1
      generalize l.getD i (0, 0) = e at TY vr CD st
      have q123 : g 123 = g0 123 := w.1.1 123 (by decide) (by decide)
      rw [q123, CD.1]
      have nxt : ∀ (s' : vS) (g' : mz_S) (p6 p7 : Option mx_v) (x4 x5 : Int), x4 = (s'.1 : Int) → x5 = ((B + offR l (i + 1) : Nat) : Int) → VR g0 g' s' → VT (ty (i + 1)) s' → vrun (g0 131) l n (i + 1) s' = vgo (g0 131) l → aX12_worked T (d + 2) Q X 6 [some (mx_R 99), some (mx_I (tt : Int)), some (mx_I x2), some (mx_I ((B + lenR l : Nat) : Int)), some (mx_I x4), some (mx_I x5), p6, p7] [] g' (0, 0) := by
        intro s' g' p6 p7 x4 x5 h4 h5 hw hlen hvr
        rw [h4, h5]
        exact ih (i + 1) s' g' p6 p7 (by omega) (by omega) hw hlen hvr
      have gate : e.1 = 150 ∨ e.1 = 151 → ∀ p7 : Option mx_v, aX12_worked T (d + 2) Q X 114 [some (mx_R 99), some (mx_I (tt : Int)), some (mx_I x2), some (mx_I ((B + lenR l : Nat) : Int)), some (mx_I (s.1 : Int)), some (mx_I (((B + offR l i : Nat) : Int) + 1)), some (mx_I (opcR e.1)), p7] [] g (0, 0) := by
        intro hg p7
        obtain ⟨r, v, t1, t2, t3, t4, t5, t6⟩ : ∃ (r : List Bool) (v : Nat), ty i = r ++ [true] ∧ ty (i + 1) = r ∧ e.2 = v ∧ i < v ∧ v ≤ l.length ∧ ty v = r ++ [true] := by
          rcases TY with ⟨h, _⟩ | ⟨h, _⟩ | ⟨_, h⟩ | ⟨h, _⟩ | ⟨h, _⟩
          · omega
          · omega
          · exact h
          · omega
          · omega
        have sz : szR e = 2 := by unfold szR; rw [if_pos (by omega)]
        have tg := (CD.2.2 hg (by omega)).2
        rw [t3, show ((v : Int)).toNat = v by omega] at tg
        rw [t1, len_app1] at hl
        have hs1 : s.1 - 1 = r.length := by omega
        rw [if_neg (by omega), if_neg (by omega), if_neg (by omega), if_pos hg, hs1] at vr
        have oc : (e.1 = 150 ∧ opcR e.1 = 1) ∨ (e.1 = 151 ∧ opcR e.1 = 2) := by
          rcases hg with y | y
          · exact Or.inl ⟨y, by rw [y]; rfl⟩
          · exact Or.inr ⟨y, by rw [y]; rfl⟩
        generalize opcR e.1 = o at oc
        refine zX12_worked_114 ?_
        refine s_inE (r.length) ?_ ?_ (fun ea => ?_)
        · omega
        · omega
        try simp only [ea]
        clear ea
        rw [lcm_z, w64_00, w.2 r.length (by omega)]
        have noj : ¬ (w64 (s.2 r.length) = 0 ↔ e.1 = 151) → aX12_worked T (d + 2) Q X 152 [some (mx_R 99), some (mx_I (tt : Int)), some (mx_I x2), some (mx_I ((B + lenR l : Nat) : Int)), some (mx_I (s.1 : Int)), some (mx_I (((B + offR l i : Nat) : Int) + 1)), some (mx_I o), p7] [mx_I 0] g (0, 0) := by
          intro hn
          rw [if_neg hn] at vr
          refine zX12_worked_152 ⟨fun _ => zX12_worked_166 ⟨fun _ => zX12_worked_194 (zX12_worked_262 (nxt (r.length, s.2) g _ _ _ _ (by dsimp only; omega) (by omega) (w.pop (by omega)) ?_ vr)), fun q => absurd rfl q⟩, fun q => absurd rfl q⟩
          rw [t2]
          rw [t1] at wt
          exact wt.pop
        have jmp : (w64 (s.2 r.length) = 0 ↔ e.1 = 151) → aX12_worked T (d + 2) Q X 152 [some (mx_R 99), some (mx_I (tt : Int)), some (mx_I x2), some (mx_I ((B + lenR l : Nat) : Int)), some (mx_I (s.1 : Int)), some (mx_I (((B + offR l i : Nat) : Int) + 1)), some (mx_I o), p7] [mx_I 1] g (0, 0) := by
          intro hn
          rw [if_pos hn, t3, show ((v : Int)).toNat = v by omega] at vr
          refine zX12_worked_152 ⟨fun q => absurd q (by decide), fun _ => zX12_worked_166 ⟨fun q => absurd q (by decide), fun _ => ?_⟩⟩
          refine s_inE (700 * tt + B + offR l i + 1) ?_ ?_ (fun ea => ?_)
          · omega
          · omega
          try simp only [ea]
          clear ea
          rw [q123, tg]
          refine zX12_worked_194 (zX12_worked_262 ?_)
          rw [show (s.1 : Int) - 0 = (s.1 : Int) by omega]
          exact ih v s g _ _ (by omega) t5 w (by rw [t6, ← t1]; exact wt) vr
        refine ⟨fun zz => ?_, fun zz => ?_⟩
        · refine zX12_worked_133 ?_
          first | with_reducible refine c_lt ?_ ?_ (fun y => ?_) (fun y => ?_) | with_reducible refine c_le ?_ ?_ (fun y => ?_) (fun y => ?_) | with_reducible refine c_eq ?_ ?_ (fun y => ?_) (fun y => ?_) | with_reducible refine c_ne ?_ ?_ (fun y => ?_) (fun y => ?_)
          · omega
          · omega
          · exact zX12_worked_144 ⟨fun q => absurd rfl q, fun _ => jmp (by constructor <;> intro _ <;> first | exact zz | omega)⟩
          · exact zX12_worked_144 ⟨fun _ => noj (fun q => by have := q.mp zz; omega), fun q => absurd (by decide) q⟩
        · refine zX12_worked_133 ?_
          first | with_reducible refine c_lt ?_ ?_ (fun y => ?_) (fun y => ?_) | with_reducible refine c_le ?_ ?_ (fun y => ?_) (fun y => ?_) | with_reducible refine c_eq ?_ ?_ (fun y => ?_) (fun y => ?_) | with_reducible refine c_ne ?_ ?_ (fun y => ?_) (fun y => ?_)
          · omega
          · omega
          · exact zX12_worked_144 ⟨fun _ => noj (fun q => zz (q.mpr (by omega))), fun q => absurd (by decide) q⟩
          · exact zX12_worked_144 ⟨fun q => absurd rfl q, fun _ => jmp (by constructor <;> intro q <;> first | exact absurd q zz | omega)⟩
      have number : e.1 = 154 → mx_in (700 * (tt : Int) + (((B + offR l i : Nat) : Int) + 1)) 4200 ∧ mx_in (s.1 : Int) 64 ∧ (∀ g4 : mz_S, g4 = mx_up g 132 (mx_at (s.1 : Int)) (w32 (g0 123 (mx_at (700 * (tt : Int) + (((B + offR l i : Nat) : Int) + 1))))) → aX12_worked T (d + 2) Q X 262 [some (mx_R 99), some (mx_I (tt : Int)), some (mx_I x2), some (mx_I ((B + lenR l : Nat) : Int)), some (mx_I ((s.1 : Int) + 1)), some (mx_I ((((B + offR l i : Nat) : Int) + 1) + 1)), some (mx_I (opcR e.1)), o7] [] g4 (0, 0)) := by
        intro he
        obtain ⟨hv1, t2⟩ : (0 ≤ e.2 ∧ e.2 ≤ 999999) ∧ ty (i + 1) = ty i ++ [false] := by
          rcases TY with ⟨h, h'⟩ | ⟨h, _⟩ | ⟨h, _⟩ | ⟨h, _⟩ | ⟨h, _⟩
          · exact ⟨by omega, h'⟩
          · omega
          · omega
          · omega
          · omega
        have sz : szR e = 2 := by unfold szR; rw [if_pos (by omega)]
        rw [if_pos he] at vr
        refine s_inE (700 * tt + B + offR l i + 1) ?_ ?_ (fun ea => ?_)
        · omega
        · omega
        try simp only [ea]
        clear ea
        refine s_inN ?_ (fun ea => ?_)
        · omega
        try simp only [ea]
        clear ea
        intro g4 e4
        rw [CD.2.1 he, w32_of (n := e.2) (by omega) (by omega)] at e4
        refine zX12_worked_262 (nxt _ g4 _ _ _ _ (by dsimp only; omega) (by omega) (by rw [e4]; exact w.push) ?_ vr)
        rw [t2]
        exact wt.push (fun z => absurd z (by decide))
      have oc : (e.1 = 154 ∧ opcR e.1 = 0) ∨ ((136 ≤ e.1 ∧ e.1 ≤ 144) ∧ opcR e.1 = e.1 - 116) ∨ (e.1 = 152 ∧ opcR e.1 = 3) ∨ (e.1 = 150 ∧ opcR e.1 = 1) ∨ (e.1 = 151 ∧ opcR e.1 = 2) ∨ (isOp e.1 ∧ 4 ≤ opcR e.1 ∧ opcR e.1 ≤ 11) := by
        have op : isOp e.1 → isOp e.1 ∧ 4 ≤ opcR e.1 ∧ opcR e.1 ≤ 11 := fun h => ⟨h, opc_op h⟩
        rcases TY with ⟨h | h, _⟩ | ⟨h, _⟩ | ⟨h | h, _⟩ | ⟨h, _⟩ | ⟨h, _⟩
        · exact Or.inl ⟨h.1, by rw [h.1]; rfl⟩
        · exact Or.inr (Or.inl ⟨h, opc_nm h⟩)
        · exact Or.inr (Or.inr (Or.inl ⟨h, by rw [h]; rfl⟩))
        · exact Or.inr (Or.inr (Or.inr (Or.inl ⟨h, by rw [h]; rfl⟩)))
        · exact Or.inr (Or.inr (Or.inr (Or.inr (Or.inl ⟨h, by rw [h]; rfl⟩))))
        · exact Or.inr (Or.inr (Or.inr (Or.inr (Or.inr (op (by unfold isOp; omega))))))
        · exact Or.inr (Or.inr (Or.inr (Or.inr (Or.inr (op (by unfold isOp; omega))))))
      first | with_reducible refine c_lt ?_ ?_ (fun z1 => ?_) (fun z1 => ?_) | with_reducible refine c_le ?_ ?_ (fun z1 => ?_) (fun z1 => ?_) | with_reducible refine c_eq ?_ ?_ (fun z1 => ?_) (fun z1 => ?_) | with_reducible refine c_ne ?_ ?_ (fun z1 => ?_) (fun z1 => ?_)
      · omega
      · omega
      · first | with_reducible refine c_lt ?_ ?_ (fun z2 => ?_) (fun z2 => ?_) | with_reducible refine c_le ?_ ?_ (fun z2 => ?_) (fun z2 => ?_) | with_reducible refine c_eq ?_ ?_ (fun z2 => ?_) (fun z2 => ?_) | with_reducible refine c_ne ?_ ?_ (fun z2 => ?_) (fun z2 => ?_)
        · omega
        · omega
        · first | with_reducible refine c_lt ?_ ?_ (fun z3 => ?_) (fun z3 => ?_) | with_reducible refine c_le ?_ ?_ (fun z3 => ?_) (fun z3 => ?_) | with_reducible refine c_eq ?_ ?_ (fun z3 => ?_) (fun z3 => ?_) | with_reducible refine c_ne ?_ ?_ (fun z3 => ?_) (fun z3 => ?_)
          · omega
          · omega
          · exact gate (by omega) _
          · first | with_reducible refine c_lt ?_ ?_ (fun z4 => ?_) (fun z4 => ?_) | with_reducible refine c_le ?_ ?_ (fun z4 => ?_) (fun z4 => ?_) | with_reducible refine c_eq ?_ ?_ (fun z4 => ?_) (fun z4 => ?_) | with_reducible refine c_ne ?_ ?_ (fun z4 => ?_) (fun z4 => ?_)
            · omega
            · omega
            · first | with_reducible refine c_lt ?_ ?_ (fun z5 => ?_) (fun z5 => ?_) | with_reducible refine c_le ?_ ?_ (fun z5 => ?_) (fun z5 => ?_) | with_reducible refine c_eq ?_ ?_ (fun z5 => ?_) (fun z5 => ?_) | with_reducible refine c_ne ?_ ?_ (fun z5 => ?_) (fun z5 => ?_)
              · omega
              · omega
              · have op : isOp e.1 := by
                  rcases oc with h | h | h | h | h | h
                  · omega
                  · omega
                  · omega
                  · omega
                  · omega
                  · exact h.1
                have op' := op
                unfold isOp at op'
                obtain ⟨r, A, B', C, t1, t2, tb⟩ : ∃ (r : List Bool) (A B C : Bool), ty i = r ++ [A, B] ∧ ty (i + 1) = r ++ [C] ∧ (C = true → e.1 = 60 ∨ e.1 = 62 ∨ e.1 = 61) := by
                  rcases TY with ⟨h, _⟩ | ⟨h, _⟩ | ⟨h, _⟩ | ⟨_, r, A, B, h⟩ | ⟨h', r, A, B, h⟩
                  · omega
                  · omega
                  · omega
                  · exact ⟨r, A, B, false, h.1, h.2, fun q => absurd q (by decide)⟩
                  · exact ⟨r, A, B, true, h.1, h.2, fun _ => h'⟩
                have sz : szR e = 1 := by unfold szR; rw [if_neg (by omega)]
                rw [t1, len_app2] at hl
                have hs1 : s.1 - 1 = r.length + 1 := by omega
                have hs2 : s.1 - 2 = r.length := by omega
                rw [if_neg (by omega), if_neg (by omega), if_neg (by omega), if_neg (by omega), hs1, hs2] at vr
                refine s_inE (r.length) ?_ ?_ (fun ea => ?_)
                · omega
                · omega
                try simp only [ea]
                clear ea
                refine s_inE (r.length + 1) ?_ ?_ (fun ea => ?_)
                · omega
                · omega
                try simp only [ea]
                clear ea
                rw [w.2 r.length (by omega), w.2 (r.length + 1) (by omega)]
                refine sX12_two op f54 (fun hd hz => ?_) (fun hn => ?_)
                · rw [if_pos ⟨hd, hz⟩] at vr
                  refine s_inE (r.length) ?_ ?_ (fun ea => ?_)
                  · omega
                  · omega
                  try simp only [ea]
                  clear ea
                  intro g2 e2
                  have fin : ∀ y, VRo g0 g2 y (vgo (g0 131) l) := by
                    intro y
                    rw [← vr, e2]
                    refine ⟨((w.1.sub (by decide) (by decide)).up9 (by decide)).up (by decide) (by decide), fun _ => by rw [up_q (by decide), up_s], fun q => absurd q (by simp)⟩
                  have v54 : g2 99 54 = 1 := by rw [e2, up_q (by decide), up_s]
                  refine zX12_worked_262 (zX12_worked_6 ?_)
                  have en : ∀ (y1 y2 y3 : Option mx_v) (x4 x5 : Int), aX12_worked T (d + 2) Q X 265 [some (mx_R 99), some (mx_I (tt : Int)), some (mx_I x2), some (mx_I ((B + lenR l : Nat) : Int)), some (mx_I x4), some (mx_I x5), y1, y2] [] g2 (0, 0) := by
                    intro y1 y2 _ x4 x5
                    refine zX12_worked_265 ?_
                    refine s_inE (0) ?_ ?_ (fun ea => ?_)
                    · omega
                    · omega
                    try simp only [ea]
                    clear ea
                    exact hk _ g2 (fin _)
                  rw [v54]
                  exact ⟨fun _ => en _ _ none _ _, fun _ => ⟨fun _ => en _ _ none _ _, fun q => absurd (by decide) q⟩⟩
                · rw [if_neg hn] at vr
                  refine s_inE (r.length) ?_ ?_ (fun ea => ?_)
                  · omega
                  · omega
                  try simp only [ea]
                  clear ea
                  intro g2 e2
                  refine zX12_worked_262 (nxt (s.1 - 1, lset s.2 r.length (opv e.1 (s.2 r.length) (s.2 (r.length + 1)))) g2 _ _ _ _ (by dsimp only; omega) (by omega) ?_ ?_ (by rw [hs1]; exact vr))
                  · rw [e2, hs1]
                    exact (w.pop (h := r.length) (by omega)).push
                  · rw [t2, hs1]
                    rw [t1] at wt
                    refine wt.pop.push (fun q => ?_)
                    have := tb q
                    rcases this with y | y | y <;> rw [y]
                    · show (if w64 _ < w64 _ then (1 : Int) else 0) = 0 ∨ (if w64 _ < w64 _ then (1 : Int) else 0) = 1
                      split <;> simp
                    · show (if w64 _ < w64 _ then (1 : Int) else 0) = 0 ∨ (if w64 _ < w64 _ then (1 : Int) else 0) = 1
                      split <;> simp
                    · show (if w64 _ = w64 _ then (1 : Int) else 0) = 0 ∨ (if w64 _ = w64 _ then (1 : Int) else 0) = 1
                      split <;> simp
              · have h152 : e.1 = 152 := by
                  rcases oc with h | h | h | h | h | h <;> omega
                obtain ⟨r, t1, t2⟩ : ∃ r, ty i = r ++ [true] ∧ ty (i + 1) = r ++ [true] := by
                  rcases TY with ⟨h, _⟩ | ⟨_, h⟩ | ⟨h, _⟩ | ⟨h, _⟩ | ⟨h, _⟩
                  · omega
                  · exact h
                  · omega
                  · omega
                  · omega
                have sz : szR e = 1 := by unfold szR; rw [if_neg (by omega)]
                rw [t1, len_app1] at hl
                have hs1 : s.1 - 1 = r.length := by omega
                rw [if_neg (by omega), if_neg (by omega), if_pos h152, hs1] at vr
                rw [t1] at wt
                have tp := wt.top
                refine s_inE (r.length) ?_ ?_ (fun ea => ?_)
                · omega
                · omega
                try simp only [ea]
                clear ea
                refine s_inE (r.length) ?_ ?_ (fun ea => ?_)
                · omega
                · omega
                try simp only [ea]
                clear ea
                rw [w.2 r.length (by omega)]
                intro g3 e3
                have ev : 1 - s.2 r.length = (if w64 (s.2 r.length) = 0 then 1 else 0) := by
                  rcases tp with y | y <;> rw [y] <;> rfl
                refine zX12_worked_262 (nxt (s.1, lset s.2 r.length (if w64 (s.2 r.length) = 0 then 1 else 0)) g3 _ _ _ _ rfl (by omega) ?_ ?_ vr)
                · rw [e3, ev]
                  have := (w.pop (h := r.length) (by omega)).push (x := (if w64 (s.2 r.length) = 0 then 1 else 0))
                  rw [← hl]
                  exact this
                · rw [t2, ← hl]
                  refine wt.pop.push (fun _ => ?_)
                  split <;> simp
            · exact gate (by omega) _
        · exact number (by omega)
      · have hn : 136 ≤ e.1 ∧ e.1 ≤ 144 := by
          rcases oc with h | h | h | h | h | h <;> omega
        have en := opc_nm hn
        have t2 : ty (i + 1) = ty i ++ [false] := by
          rcases TY with ⟨_, h⟩ | ⟨h, _⟩ | ⟨h, _⟩ | ⟨h, _⟩ | ⟨h, _⟩
          · exact h
          · omega
          · omega
          · omega
          · omega
        have sz : szR e = 1 := by unfold szR; rw [if_neg (by omega)]
        rw [if_neg (by omega), if_pos hn] at vr
        rw [en]
        refine s_inE ((e.1 - 136).toNat) ?_ ?_ (fun ea => ?_)
        · omega
        · omega
        try simp only [ea]
        clear ea
        refine s_inN ?_ (fun ea => ?_)
        · omega
        try simp only [ea]
        clear ea
        intro g5 e5
        rw [w.1.1 131 (by decide) (by decide)] at e5
        refine zX12_worked_262 (nxt _ g5 _ _ _ _ (by dsimp only; omega) (by omega) (by rw [e5]; exact w.push) ?_ vr)
        rw [t2]
        exact wt.push (fun z => absurd z (by decide))
theorem sX12_worked {T : Nat × (Nat → Int32)} {d : Nat} {Q : mz_K} {X : mz_X} {g : mz_S} {l : List (Int × Int)} {tt B : Nat} {b : Bool} (ty : TyP l b) (ht : tt < 6) (hB : B + lenR l ≤ 700) (hc : CodR g (700 * tt) B l) (h54 : g 99 54 = 0) (hk : ∀ r g', VRo g g' r (vgo (g 131) l) → Q r g') : zC T (d + 3) 270 [mx_R 99, mx_I (tt : Int), mx_I (B : Int), mx_I ((B + lenR l : Nat) : Int)] g Q X := by
  obtain ⟨_, ty, t1, t2, t3, t4⟩ := ty
  refine zX12_worked ?_
  have := vm_R (T := T) (d := d) (Q := Q) (X := X) (g0 := g) (l := l) (ty := ty) (tt := tt) (B := B) (x2 := (B : Int)) (b := b) (fun i hi => t3 i (Nat.zero_le _) hi) (fun i hi => t4 i (Nat.zero_le _) hi) t2 ht hB hc h54 hk (l.length + 1) 0 (0, fun _ => 0) g none none (by omega) (by omega) ⟨Ch.rf g, fun j hj => absurd hj (Nat.not_lt_zero _)⟩ (by rw [t1]; exact ⟨rfl, fun j hj => absurd hj (Nat.not_lt_zero _)⟩) rfl
  rw [offR_0] at this
  exact this
