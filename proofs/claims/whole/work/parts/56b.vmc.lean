/-! the class reckons as the machine -/
def VC (g0 g : mz_S) (s : vS) : Prop := Ch [39, 47] [] g0 g ∧ (∀ p, p ≠ 13 → p ≠ 14 → g 39 p = g0 39 p) ∧ g 39 13 = s.1 ∧ g 39 14 = 0 ∧ ∀ j, j < s.1 → g 47 j = s.2 j
def VCo (g0 g : mz_S) (o : Bool × (Nat → Int)) : Prop := Ch [39, 47] [] g0 g ∧ (∀ p, p ≠ 13 → p ≠ 14 → g 39 p = g0 39 p) ∧ (o.1 = true → g 39 14 = 1) ∧ (o.1 = false → g 39 14 = 0 ∧ g 47 0 = o.2 0)
theorem VC.push {g0 g : mz_S} {s : vS} {x : Int} (h : VC g0 g s) : VC g0 (mx_up (mx_up g 47 s.1 x) 39 13 ((s.1 + 1 : Nat) : Int)) (s.1 + 1, lset s.2 s.1 x) := by
  obtain ⟨h1, h2, h3, h4, h5⟩ := h
  refine ⟨(h1.up (by decide) (by decide)).up (by decide) (by decide), fun p a b => by rw [up_i a, up_q (by decide)]; exact h2 p a b, up_s, by rw [up_i (by decide), up_q (by decide)]; exact h4, fun j hj => ?_⟩
  rw [up_q (by decide)]
  dsimp only at hj ⊢
  by_cases z : j = s.1
  · subst z; rw [up_s, lset_s]
  · rw [up_i z, lset_n z]; exact h5 j (by omega)
theorem VC.pop {g0 g : mz_S} {s : vS} {h : Nat} (w : VC g0 g s) (e : s.1 = h + 1) : VC g0 (mx_up g 39 13 (h : Int)) (h, s.2) := by
  obtain ⟨h1, h2, h3, h4, h5⟩ := w
  exact ⟨h1.up (by decide) (by decide), fun p a b => by rw [up_i a]; exact h2 p a b, up_s, by rw [up_i (by decide)]; exact h4, fun j hj => by rw [up_q (by decide)]; exact h5 j (by dsimp only at hj; omega)⟩
theorem VC.eq {g0 g : mz_S} {s s' : vS} (w : VC g0 g s') (e : s'.1 = s.1) (h : ∀ j, j < s.1 → s'.2 j = s.2 j) : VC g0 g s := by
  obtain ⟨h1, h2, h3, h4, h5⟩ := w
  exact ⟨h1, h2, by rw [h3, e], h4, fun j hj => by rw [h5 j (by omega), h j hj]⟩
theorem len_app1 {r : List Bool} {a : Bool} : (r ++ [a]).length = r.length + 1 := by simp
theorem len_app2 {r : List Bool} {a b : Bool} : (r ++ [a, b]).length = r.length + 2 := by simp
theorem vm_C {T : Nat × (Nat → Int32)} {d : Nat} {Q : mz_K} {X : mz_X} {g0 : mz_S} {l : List (Int × Int)} {ty : Nat → List Bool} {a : Nat} {x1 : Int} {b : Bool} (hty : ∀ i, i < l.length → TyR l ty l.length i) (hH : ∀ i, i ≤ l.length → (ty i).length ≤ 14) (hE : ty l.length = [b]) (ha : a + l.length ≤ 2400) (hc : ∀ i, i < l.length → g0 38 (a + i) = encG a (l.getD i (0, 0))) (hk : ∀ g', VCo g0 g' (vgo (g0 45) l) → Q 0 g') : ∀ (n i : Nat) (s : vS) (g : mz_S) (o4 o5 o6 : Option mx_v), l.length < i + n → i ≤ l.length → VC g0 g s → (ty i).length = s.1 → vrun (g0 45) l n i s = vgo (g0 45) l → aX3_reckon T (d + 2) Q X 12 [some (mx_R 39), some (mx_I x1), some (mx_I ((a + l.length : Nat) : Int)), some (mx_I ((a + i : Nat) : Int)), o4, o5, o6, none] [] g (0, 0) := by
  intro n
  induction n with
  | zero => intro i s g o4 o5 o6 h1 h2; omega
  | succ n ih =>
    intro i s g o4 o5 o6 h1 h2 w hl hv
    have w' := w
    obtain ⟨w1, w2, w3, w4, w5⟩ := w'
    refine zX3_reckon_12 ?_
    first | with_reducible refine c_lt ?_ ?_ (fun z => ?_) (fun z => ?_) | with_reducible refine c_le ?_ ?_ (fun z => ?_) (fun z => ?_) | with_reducible refine c_eq ?_ ?_ (fun z => ?_) (fun z => ?_) | with_reducible refine c_ne ?_ ?_ (fun z => ?_) (fun z => ?_)
    · omega
    · omega
    · have e : i = l.length := by omega
      subst e
      refine zX3_reckon_228 (hk g ?_)
      rw [← hv]
      show VCo g0 g (if l.length ≤ l.length then (false, s.2) else _)
      rw [if_pos (Nat.le_refl _)]
      refine ⟨w1, w2, fun z => absurd z (by simp), fun _ => ⟨w4, w5 0 ?_⟩⟩
      rw [hE] at hl
      have : 1 = s.1 := hl
      omega
    · have hi : i < l.length := by omega
      have TY := hty i hi
      have H0 : s.1 ≤ 14 := by rw [← hl]; exact hH i h2
      have H1 := hH (i + 1) (by omega)
      have vr : vrun (g0 45) l (n + 1) i s = _ := hv
      unfold vrun at vr
      rw [if_neg (by omega)] at vr
      rw [w4]
      refine ⟨fun z => absurd rfl z, fun _ => ?_⟩
      refine s_inN ?_ (fun ea => ?_)
      · omega
      try simp only [ea]
      clear ea
      refine s_inN ?_ (fun ea => ?_)
      · omega
      try simp only [ea]
      clear ea
      have cd : g 38 (a + i) = encG a (l.getD i (0, 0)) := by rw [w1.1 38 (by decide) (by decide)]; exact hc i hi
      rw [cd]
      have q45 : ∀ G, VC g0 G s → G 45 = g0 45 := fun G hG => hG.1.1 45 (by decide) (by decide)
      unfold TyR at TY
      generalize l.getD i (0, 0) = e at TY vr cd
      have ek : 0 ≤ e.1 ∧ e.1 ≤ 255 := by
        rcases TY with ⟨h, _⟩ | ⟨h, _⟩ | ⟨h, _⟩ | ⟨h, _⟩ | ⟨h, _⟩ <;> omega
      have ia : mx_iand (encG a e) 255 = e.1 := iand_k ek
      rw [ia]
      have nxt : ∀ (s' : vS) (g' : mz_S) (p4 p5 p6 : Option mx_v), VC g0 g' s' → (ty (i + 1)).length = s'.1 → vrun (g0 45) l n (i + 1) s' = vgo (g0 45) l → aX3_reckon T (d + 2) Q X 12 [some (mx_R 39), some (mx_I x1), some (mx_I ((a + l.length : Nat) : Int)), some (mx_I (((a + i : Nat) : Int) + 1)), p4, p5, p6, none] [] g' (0, 0) := by
        intro s' g' p4 p5 p6 hw hlen hvr
        rw [show ((a + i : Nat) : Int) + 1 = ((a + (i + 1) : Nat) : Int) by omega]
        exact ih (i + 1) s' g' p4 p5 p6 (by omega) (by omega) hw hlen hvr
      have gate : e.1 = 150 ∨ e.1 = 151 → ∀ p6 : Option mx_v, aX3_reckon T (d + 2) Q X 148 [some (mx_R 39), some (mx_I x1), some (mx_I ((a + l.length : Nat) : Int)), some (mx_I ((a + i : Nat) : Int)), some (mx_I e.1), some (mx_I (mx_ishr (encG a e) 8)), p6, none] [] g (0, 0) := by
        intro hg p6
        obtain ⟨r, v, t1, t2, t3, t4, t5, t6⟩ : ∃ (r : List Bool) (v : Nat), ty i = r ++ [true] ∧ ty (i + 1) = r ∧ e.2 = v ∧ i < v ∧ v ≤ l.length ∧ ty v = r ++ [true] := by
          rcases TY with ⟨h, _⟩ | ⟨h, _⟩ | ⟨_, h⟩ | ⟨h, _⟩ | ⟨h, _⟩
          · omega
          · omega
          · exact h
          · omega
          · omega
        have e5 : mx_ishr (encG a e) 8 = ((a + v : Nat) : Int) := by
          unfold encG
          rw [if_pos hg, t3, if_neg (by omega), show e.1 + 256 * ((a : Int) + (v : Int)) = ((e.1.toNat + 256 * (a + v) : Nat) : Int) by omega, ishr8 (by omega)]
          omega
        rw [e5]
        rw [t1, len_app1] at hl
        have hs1 : s.1 - 1 = r.length := by omega
        rw [if_neg (by omega), if_neg (by omega), if_neg (by omega), if_pos hg, hs1] at vr
        refine zX3_reckon_148 (sX3_pop (h := r.length) (by rw [w3, ← hl]) (by omega) ?_)
        rw [lcm_z, w64_00, w5 r.length (by omega)]
        have wp := w.pop (h := r.length) (by omega)
        have noj : ¬ (w64 (s.2 r.length) = 0 ↔ e.1 = 151) → aX3_reckon T (d + 2) Q X 197 [some (mx_R 39), some (mx_I x1), some (mx_I ((a + l.length : Nat) : Int)), some (mx_I ((a + i : Nat) : Int)), some (mx_I e.1), some (mx_I ((a + v : Nat) : Int)), some (mx_J (s.2 r.length)), none] [] (mx_up g 39 13 (r.length : Int)) (0, 0) := by
          intro hn
          rw [if_neg hn] at vr
          exact zX3_reckon_197 (zX3_reckon_222 (nxt _ _ _ _ _ wp (by rw [t2]) vr))
        have jmp : (w64 (s.2 r.length) = 0 ↔ e.1 = 151) → zC T (d + 2) 47 [mx_R 39, mx_J (s.2 r.length)] (mx_up g 39 13 (r.length : Int)) (fun r1 g1 => zC T (d + 2) 347 [mx_I ((a + i : Nat) : Int), mx_I (((a + v : Nat) : Int) - 1)] g1 (fun r2 g2 => aX3_reckon T (d + 2) Q X 197 [some (mx_R 39), some (mx_I x1), some (mx_I ((a + l.length : Nat) : Int)), some (mx_I r2), some (mx_I e.1), some (mx_I ((a + v : Nat) : Int)), some (mx_J (s.2 r.length)), none] [] g2 (0, 0)) X) X := by
          intro hn
          rw [if_pos hn, t3, show ((v : Int)).toNat = v by omega] at vr
          refine sX3_push (h := r.length) up_s (by omega) ?_
          have ws := (wp.push (x := s.2 r.length)).eq (s := s) (by dsimp only; omega) (fun j hj => by
            dsimp only
            by_cases y : j = r.length
            · rw [y, lset_s]
            · rw [lset_n y])
          have fin : ∀ r2 : Int, r2 + 1 = ((a + v : Nat) : Int) → aX3_reckon T (d + 2) Q X 197 [some (mx_R 39), some (mx_I x1), some (mx_I ((a + l.length : Nat) : Int)), some (mx_I r2), some (mx_I e.1), some (mx_I ((a + v : Nat) : Int)), some (mx_J (s.2 r.length)), none] [] (mx_up (mx_up (mx_up g 39 13 (r.length : Int)) 47 r.length (s.2 r.length)) 39 13 ((r.length + 1 : Nat) : Int)) (0, 0) := by
            intro r2 hr2
            refine zX3_reckon_197 (zX3_reckon_222 ?_)
            rw [hr2]
            exact ih v s _ _ _ _ (by omega) t5 ws (by rw [t6, len_app1]; omega) vr
          refine zJ9_max_7cf53 ?_
          first | with_reducible refine c_lt ?_ ?_ (fun y => ?_) (fun y => ?_) | with_reducible refine c_le ?_ ?_ (fun y => ?_) (fun y => ?_) | with_reducible refine c_eq ?_ ?_ (fun y => ?_) (fun y => ?_) | with_reducible refine c_ne ?_ ?_ (fun y => ?_) (fun y => ?_)
          · omega
          · omega
          · exact zJ9_max_7cf53_10 (fin _ (by omega))
          · exact zJ9_max_7cf53_10 (fin _ (by omega))
        refine ⟨fun zz => ?_, fun zz => ?_⟩
        · refine zX3_reckon_166 ?_
          first | with_reducible refine c_lt ?_ ?_ (fun y => ?_) (fun y => ?_) | with_reducible refine c_le ?_ ?_ (fun y => ?_) (fun y => ?_) | with_reducible refine c_eq ?_ ?_ (fun y => ?_) (fun y => ?_) | with_reducible refine c_ne ?_ ?_ (fun y => ?_) (fun y => ?_)
          · omega
          · omega
          · exact zX3_reckon_179 ⟨fun q => absurd rfl q, fun _ => jmp (by constructor <;> intro _ <;> first | exact zz | omega)⟩
          · exact zX3_reckon_179 ⟨fun _ => noj (fun q => by have := q.mp zz; omega), fun q => absurd (by decide) q⟩
        · refine zX3_reckon_166 ?_
          first | with_reducible refine c_lt ?_ ?_ (fun y => ?_) (fun y => ?_) | with_reducible refine c_le ?_ ?_ (fun y => ?_) (fun y => ?_) | with_reducible refine c_eq ?_ ?_ (fun y => ?_) (fun y => ?_) | with_reducible refine c_ne ?_ ?_ (fun y => ?_) (fun y => ?_)
          · omega
          · omega
          · exact zX3_reckon_179 ⟨fun _ => noj (fun q => zz (q.mpr (by omega))), fun q => absurd (by decide) q⟩
          · exact zX3_reckon_179 ⟨fun q => absurd rfl q, fun _ => jmp (by constructor <;> intro q <;> first | exact absurd q zz | omega)⟩
      first | with_reducible refine c_lt ?_ ?_ (fun z1 => ?_) (fun z1 => ?_) | with_reducible refine c_le ?_ ?_ (fun z1 => ?_) (fun z1 => ?_) | with_reducible refine c_eq ?_ ?_ (fun z1 => ?_) (fun z1 => ?_) | with_reducible refine c_ne ?_ ?_ (fun z1 => ?_) (fun z1 => ?_)
      · omega
      · omega
      · refine sX11_within (by omega) (by omega) (by omega) ?_
        first | with_reducible refine b_eq (fun z2 => ?_) (fun z2 => ?_) | with_reducible refine b_ne (fun z2 => ?_) (fun z2 => ?_)
        · first | with_reducible refine c_lt ?_ ?_ (fun z3 => ?_) (fun z3 => ?_) | with_reducible refine c_le ?_ ?_ (fun z3 => ?_) (fun z3 => ?_) | with_reducible refine c_eq ?_ ?_ (fun z3 => ?_) (fun z3 => ?_) | with_reducible refine c_ne ?_ ?_ (fun z3 => ?_) (fun z3 => ?_)
          · omega
          · omega
          · first | with_reducible refine c_lt ?_ ?_ (fun z4 => ?_) (fun z4 => ?_) | with_reducible refine c_le ?_ ?_ (fun z4 => ?_) (fun z4 => ?_) | with_reducible refine c_eq ?_ ?_ (fun z4 => ?_) (fun z4 => ?_) | with_reducible refine c_ne ?_ ?_ (fun z4 => ?_) (fun z4 => ?_)
            · omega
            · omega
            · exact gate (Or.inl z4) _
            · first | with_reducible refine c_lt ?_ ?_ (fun z5 => ?_) (fun z5 => ?_) | with_reducible refine c_le ?_ ?_ (fun z5 => ?_) (fun z5 => ?_) | with_reducible refine c_eq ?_ ?_ (fun z5 => ?_) (fun z5 => ?_) | with_reducible refine c_ne ?_ ?_ (fun z5 => ?_) (fun z5 => ?_)
              · omega
              · omega
              · obtain ⟨r, A, B, C, t1, t2⟩ : ∃ (r : List Bool) (A B C : Bool), ty i = r ++ [A, B] ∧ ty (i + 1) = r ++ [C] := by
                  rcases TY with ⟨h, _⟩ | ⟨h, _⟩ | ⟨h, _⟩ | ⟨_, r, A, B, h⟩ | ⟨_, r, A, B, h⟩
                  · omega
                  · omega
                  · omega
                  · exact ⟨r, A, B, false, h⟩
                  · exact ⟨r, A, B, true, h⟩
                have op : isOp e.1 := by
                  unfold isOp
                  rcases TY with ⟨h, _⟩ | ⟨h, _⟩ | ⟨h, _⟩ | ⟨h, _⟩ | ⟨h, _⟩ <;> omega
                rw [t1, len_app2] at hl
                have hs1 : s.1 - 1 = r.length + 1 := by omega
                have hs2 : s.1 - 2 = r.length := by omega
                rw [if_neg (by omega), if_neg (by omega), if_neg (by omega), if_neg (by omega), hs1, hs2] at vr
                have wp := w.pop (h := r.length + 1) (by omega)
                have wq := wp.pop (h := r.length) rfl
                refine sX3_pop (h := r.length + 1) (by rw [w3, ← hl]) (by omega) ?_
                refine sX3_pop (h := r.length) up_s (by omega) ?_
                rw [w5 (r.length + 1) (by omega), show (mx_up g 39 13 ((r.length + 1 : Nat) : Int)) 47 r.length = s.2 r.length by rw [up_q (by decide)]; exact w5 r.length (by omega)]
                refine sX3_join op (fun hd hz => ?_) (fun hn => ?_)
                · rw [if_pos ⟨hd, hz⟩] at vr
                  refine sX3_push (h := r.length) (by rw [up_i (by decide), up_s]) (by omega) ?_
                  refine zX3_reckon_222 (zX3_reckon_12 ?_)
                  have fin : ∀ (G : mz_S) (b1 b2 b3 b4 b5 b6 : Option mx_v), G = mx_up (mx_up (mx_up (mx_up (mx_up g 39 13 ((r.length + 1 : Nat) : Int)) 39 13 (r.length : Int)) 39 14 1) 47 r.length 0) 39 13 ((r.length + 1 : Nat) : Int) → VCo g0 G (vgo (g0 45) l) := by
                    intro G _ _ _ _ _ _ hG
                    rw [hG, ← vr]
                    refine ⟨((wq.1.up (by decide) (by decide)).up (by decide) (by decide)).up (by decide) (by decide), fun p p1 p2 => by rw [up_i p1, up_q (by decide), up_i p2]; exact wq.2.1 p p1 p2, fun _ => by rw [up_i (by decide), up_q (by decide), up_s], fun q => absurd q (by simp)⟩
                  refine ⟨fun _ => zX3_reckon_228 (hk _ (fin _ none none none none none none rfl)), fun _ => ⟨fun _ => zX3_reckon_228 (hk _ (fin _ none none none none none none rfl)), fun q => absurd ?_ q⟩⟩
                  rw [up_i (by decide), up_q (by decide), up_s]; decide
                · rw [if_neg hn] at vr
                  refine sX3_push (h := r.length) up_s (by omega) ?_
                  refine zX3_reckon_222 (nxt _ _ _ _ _ (wq.push (x := opv e.1 (s.2 r.length) (s.2 (r.length + 1)))) (by rw [t2, len_app1]) vr)
              · exact gate (Or.inr (by omega)) _
          · obtain ⟨r, t1, t2⟩ : ∃ r, ty i = r ++ [true] ∧ ty (i + 1) = r ++ [true] := by
              rcases TY with ⟨h, _⟩ | ⟨_, h⟩ | ⟨h, _⟩ | ⟨h, _⟩ | ⟨h, _⟩
              · omega
              · exact h
              · omega
              · omega
              · omega
            rw [t1, len_app1] at hl
            have hs1 : s.1 - 1 = r.length := by omega
            rw [if_neg (by omega), if_neg (by omega), if_pos (by omega), hs1] at vr
            have wp := w.pop (h := r.length) (by omega)
            refine sX3_pop (h := r.length) (by rw [w3, ← hl]) (by omega) ?_
            rw [lcm_z, w64_00, w5 r.length (by omega)]
            have fin : ∀ x : Int, x = (if w64 (s.2 r.length) = 0 then 1 else 0) → ∀ p6 : Option mx_v, aX3_reckon T (d + 2) Q X 126 [some (mx_R 39), some (mx_I x1), some (mx_I ((a + l.length : Nat) : Int)), some (mx_I ((a + i : Nat) : Int)), some (mx_I e.1), some (mx_I (mx_ishr (encG a e) 8)), p6, none] [mx_J x, mx_R 39] (mx_up g 39 13 (r.length : Int)) (0, 0) := by
              intro x hx p6
              refine zX3_reckon_126 (sX3_push (h := r.length) up_s (by omega) ?_)
              refine zX3_reckon_222 (nxt (s.1, lset s.2 r.length x) _ _ _ _ ((wp.push (x := x)).eq (by dsimp only; omega) (fun j _ => rfl)) (by rw [t2, len_app1]; exact hl) (by rw [hx]; exact vr))
            refine ⟨fun zz => fin 0 (by rw [if_neg zz]) _, fun zz => fin 1 (by rw [if_pos (Classical.not_not.mp zz)]) _⟩
        · rw [if_neg (by omega), if_pos z2] at vr
          have t2 : ty (i + 1) = ty i ++ [false] := by
            rcases TY with ⟨_, h⟩ | ⟨h, _⟩ | ⟨h, _⟩ | ⟨h, _⟩ | ⟨h, _⟩
            · exact h
            · omega
            · omega
            · omega
            · omega
          refine s_in ?_ (fun ea => ?_)
          · omega
          try simp only [ea]
          clear ea
          rw [w1.1 45 (by decide) (by decide)]
          refine sX3_push (h := s.1) w3 (by omega) ?_
          exact zX3_reckon_222 (nxt _ _ _ _ _ w.push (by rw [t2, len_app1, hl]) vr)
      · rw [if_pos (by omega)] at vr
        obtain ⟨hv1, t2⟩ : (0 ≤ e.2 ∧ e.2 ≤ 999999) ∧ ty (i + 1) = ty i ++ [false] := by
          rcases TY with ⟨h, h'⟩ | ⟨h, _⟩ | ⟨h, _⟩ | ⟨h, _⟩ | ⟨h, _⟩
          · exact ⟨by omega, h'⟩
          · omega
          · omega
          · omega
          · omega
        have e5 : mx_ishr (encG a e) 8 = e.2 := by
          unfold encG
          rw [if_neg (by omega), show e.1 + 256 * e.2 = ((e.1.toNat + 256 * e.2.toNat : Nat) : Int) by omega, ishr8 (by omega)]
          omega
        rw [e5, w32_of (n := e.2) (by omega) (by omega)]
        refine sX3_push (h := s.1) w3 (by omega) ?_
        exact zX3_reckon_222 (nxt _ _ _ _ _ w.push (by rw [t2, len_app1, hl]) vr)
theorem sX3_reckon {T : Nat × (Nat → Int32)} {d : Nat} {Q : mz_K} {X : mz_X} {g : mz_S} {l : List (Int × Int)} {a : Nat} {b : Bool} (ty : TyP l b) (ha : a + l.length ≤ 2400) (hc : ∀ i, i < l.length → g 38 (a + i) = encG a (l.getD i (0, 0))) (hk : ∀ g', VCo g g' (vgo (g 45) l) → Q 0 g') : zC T (d + 3) 46 [mx_R 39, mx_I (a : Int), mx_I ((a + l.length : Nat) : Int)] g Q X := by
  obtain ⟨_, ty, t1, t2, t3, t4⟩ := ty
  refine zX3_reckon ?_
  intro g1 e1
  refine ⟨by decide, ?_⟩
  intro g2 e2
  have c2 : Ch [39, 47] [] g g2 := by rw [e2, e1]; exact ((Ch.rf g).up (by decide) (by decide)).up (by decide) (by decide)
  have p2 : ∀ p, p ≠ 13 → p ≠ 14 → g2 39 p = g 39 p := fun p h1 h2 => by rw [e2, up_i h2, e1, up_i h1]
  have q45 : g2 45 = g 45 := c2.1 45 (by decide) (by decide)
  have := vm_C (T := T) (d := d) (Q := Q) (X := X) (g0 := g2) (l := l) (ty := ty) (a := a) (x1 := (a : Int)) (b := b) (fun i hi => t3 i (Nat.zero_le _) hi) (fun i hi => t4 i (Nat.zero_le _) hi) t2 ha (fun i hi => by rw [c2.1 38 (by decide) (by decide)]; exact hc i hi) (fun g' hg' => hk g' ?_) (l.length + 1) 0 (0, fun _ => 0) g2 none none none (by omega) (by omega) ⟨Ch.rf g2, fun _ _ _ => rfl, by rw [e2, up_i (by decide), e1, up_s]; rfl, by rw [e2, up_s], fun j hj => absurd hj (Nat.not_lt_zero _)⟩ (by rw [t1]; rfl) rfl
  · exact this
  · rw [q45] at hg'
    exact ⟨c2.tr hg'.1, fun p h1 h2 => (hg'.2.1 p h1 h2).trans (p2 p h1 h2), hg'.2.2.1, hg'.2.2.2⟩
