/-! what a line says, as the reference reads it -/
theorem RdR.here {c c' : mz_S} {n N tt B op : Nat} {s : pS} {g : mz_S} (h : RdR c n N tt B op s g) (hc : Ch [124, 125, 126, 127, 128, 129] [] g c') : RdR c' n N tt (B + lenR s.2.2.2) op (pre0 s) c' := by
  obtain ⟨a1, a2, a3, a4, a5, a6, a7⟩ := h
  have e119 : c' 119 = c 119 := by rw [hc.1 119 (by decide) (by decide), a1.1 119 (by decide) (by decide)]
  refine ⟨Ch.rf c', fun _ _ => rfl, by rw [hc.2 32 (by decide)]; exact a3, a4, fun z => by rw [hc.2 33 (by decide)]; exact a5 z, a6, fun z => ?_⟩
  obtain ⟨b1, b2, b3, b4⟩ := a7 z
  refine ⟨?_, by rw [hc.2 38 (by decide)]; exact b2, ?_, fun i hi => absurd hi (Nat.not_lt_zero _)⟩
  · rw [e119]; exact b1.fr hc (by decide) (by decide)
  · rw [hc.2 37 (by decide), b3]; show ((B + lenR s.2.2.2 : Nat) : Int) = ((B + lenR s.2.2.2 + 0 : Nat) : Int); rfl
theorem RdR.re {c c' : mz_S} {n N tt B op : Nat} {s : pS} {g : mz_S} (h : RdR c n N tt B op s g) (h0 : s.2.2.2 = []) (hc : Ch [124, 125, 126, 127, 128, 129] [] g c') : RdR c' n N tt B op s c' := by
  have := h.here hc
  rw [h0] at this
  have e : pre0 s = s := by unfold pre0; rw [← h0]
  rw [e] at this
  exact this
theorem RdW.same {c c' : mz_S} {n N tt : Nat} (w : RdW c n N tt) (h : c' 119 = c 119) (h2 : c' 99 27 = c 99 27) (h3 : c' 99 36 = c 99 36) : RdW c' n N tt := by
  unfold RdW at *
  rw [h, h2, h3]; exact w
theorem sX12_readNumber {T : Nat × (Nat → Int32)} {d : Nat} {Q : mz_K} {X : mz_X} {g : mz_S} {c : mz_S} {n N tt B op : Nat} {s : pS} (hW : RdW c n N tt) (h : RdR c n N tt B op s g) (k : ∀ g', RdR c n N tt B op (pnum (tokR (c 119) n N) s).2 g' → Q (pnum (tokR (c 119) n N) s).1 g') : zC T (d + 3) 261 [mx_R 99] g Q X := by
  have hfb := h.fb
  have h32 := h.2.2.1
  have hr := pkR_rng (c := c) (n := n) h.2.2.2.2.2.1
  have bad : ∀ g' s' (x : Int), RdR c n N tt B op s' g' → ¬ s'.2.1 = 0 → (pnum (tokR (c 119) n N) s) = (0, s') → aX12_readNumber T (d + 2) Q X 61 [some (mx_R 99), some (mx_I x)] [] g' (0, 0) := by
    intro g' s' x r' hb e
    rw [e] at k
    have f' := r'.fb
    refine zX12_readNumber_61 ?_
    rw [r'.2.2.1] at f' ⊢
    first | with_reducible refine c_lt ?_ ?_ (fun y => ?_) (fun y => ?_) | with_reducible refine c_le ?_ ?_ (fun y => ?_) (fun y => ?_) | with_reducible refine c_eq ?_ ?_ (fun y => ?_) (fun y => ?_) | with_reducible refine c_ne ?_ ?_ (fun y => ?_) (fun y => ?_)
    · omega
    · omega
    · exact zX12_readNumber_73 (k g' r')
    · exact absurd y hb
  have bad45 : ∀ g' s', RdR c n N tt B op s' g' → ¬ s'.2.1 = 0 → (pnum (tokR (c 119) n N) s) = (0, s') → aX12_readNumber T (d + 2) Q X 45 [some (mx_R 99), none] [] g' (0, 0) := by
    intro g' s' r' hb e
    have f' := r'.fb
    refine zX12_readNumber_45 ?_
    have e32 := r'.2.2.1
    first | with_reducible refine c_lt ?_ ?_ (fun y => ?_) (fun y => ?_) | with_reducible refine c_le ?_ ?_ (fun y => ?_) (fun y => ?_) | with_reducible refine c_eq ?_ ?_ (fun y => ?_) (fun y => ?_) | with_reducible refine c_ne ?_ ?_ (fun y => ?_) (fun y => ?_)
    · omega
    · omega
    · exact bad g' s' _ r' hb e
    · exact absurd (by rw [← e32]; exact y) hb
  refine zX12_readNumber ?_
  first | with_reducible refine c_lt ?_ ?_ (fun z0 => ?_) (fun z0 => ?_) | with_reducible refine c_le ?_ ?_ (fun z0 => ?_) (fun z0 => ?_) | with_reducible refine c_eq ?_ ?_ (fun z0 => ?_) (fun z0 => ?_) | with_reducible refine c_ne ?_ ?_ (fun z0 => ?_) (fun z0 => ?_)
  · omega
  · omega
  · have ft0 : s.2.1 = 0 := by rw [← h32]; exact z0
    obtain ⟨t1, t2, t3, t4, t5, t6⟩ := (h.2.2.2.2.2.2 ft0).1
    have tr := tcl_rng (tk (c 119) n s.1 0).1
    have ek : pk (tokR (c 119) n N) s = (tk (c 119) n s.1 0).1 := by rw [pk_ok ft0]; exact if_pos h.2.2.2.2.2.1
    have tc := (tcl_c (tk (c 119) n s.1 0).1).2.2.1
    rw [t3]
    first | with_reducible refine c_lt ?_ ?_ (fun z1 => ?_) (fun z1 => ?_) | with_reducible refine c_le ?_ ?_ (fun z1 => ?_) (fun z1 => ?_) | with_reducible refine c_eq ?_ ?_ (fun z1 => ?_) (fun z1 => ?_) | with_reducible refine c_ne ?_ ?_ (fun z1 => ?_) (fun z1 => ?_)
    · omega
    · omega
    · have e154 : pk (tokR (c 119) n N) s = 154 := by rw [ek]; exact tc.mp z1
      have ok := (tk_ok (b := c 119) (n := n) s.1 0 (Nat.zero_le _)).2.2.2.2
      have ev : g 99 31 = (tk (c 119) n s.1 0).2.2.2 := t4.1 (by rw [← ek]; exact e154)
      have et : (tokR (c 119) n N).2.2 s.1 = (tk (c 119) n s.1 0).2.2.2 := if_pos h.2.2.2.2.2.1
      rw [ev]
      refine sX12_withinW (by omega) (by omega) (by omega) ?_
      first | with_reducible refine b_eq (fun z2 => ?_) (fun z2 => ?_) | with_reducible refine b_ne (fun z2 => ?_) (fun z2 => ?_)
      · have ep : pnum (tokR (c 119) n N) s = ((tk (c 119) n s.1 0).2.2.2, padv s) := by unfold pnum; rw [if_pos e154, et, if_pos z2]
        rw [ep] at k
        refine zX12_readNumber_45 ?_
        rw [z0, ev]
        refine ⟨fun y => absurd rfl y, fun _ => ?_⟩
        refine sX12_next hW h (by omega) (fun g1 r1 => ?_)
        have f1 : g1 99 32 = 0 := by rw [r1.2.2.1]; exact ft0
        refine zX12_readNumber_61 ?_
        rw [f1]
        exact ⟨fun y => absurd rfl y, fun _ => zX12_readNumber_73 (k g1 r1)⟩
      · have ep : pnum (tokR (c 119) n N) s = (0, pfail (tokR (c 119) n N) 4 s) := by unfold pnum; rw [if_pos e154, et, if_neg z2]
        exact sX12_wrong h (by omega) (fun g1 r1 => bad45 g1 _ r1 (ft_fail (by decide)) ep)
    · have e154 : ¬ pk (tokR (c 119) n N) s = 154 := fun y => z1 (tc.mpr (by rw [← ek]; exact y))
      have ep : pnum (tokR (c 119) n N) s = (0, pfail (tokR (c 119) n N) 2 s) := by unfold pnum; rw [if_neg e154]
      exact sX12_wrong h (by omega) (fun g1 r1 => bad45 g1 _ r1 (ft_fail (by decide)) ep)
  · have hb : ¬ s.2.1 = 0 := by rw [← h32]; exact z0
    have ep : pnum (tokR (c 119) n N) s = (0, s) := by unfold pnum; rw [pk_bad hb, if_neg (by decide), pfail_bad hb]
    rw [ep] at k
    exact k g h
def SayR (G G' : mz_S) (l m : Nat) : Prop := Ch [123, 124, 126] [28, 29, 30, 31, 32, 33, 37, 38] G G' ∧ (∀ i, i ≠ l → G' 124 i = G 124 i ∧ G' 126 i = G 126 i) ∧ ∀ i, i < m → G' 123 i = G 123 i
theorem SayR.rf (G : mz_S) (l m : Nat) : SayR G G l m := ⟨Ch.rf G, fun _ _ => ⟨rfl, rfl⟩, fun _ _ => rfl⟩
theorem SayR.up {G G' : mz_S} {l m : Nat} (h : SayR G G' l m) {q : Nat} (hq : q = 124 ∨ q = 126) (v : Int) : SayR G (mx_up G' q l v) l m := by
  refine ⟨h.1.up (by rcases hq with z | z <;> subst z <;> decide) (by rcases hq with z | z <;> subst z <;> decide), fun i hi => ?_, fun i hi => ?_⟩
  · rw [up_i hi, up_i hi]; exact h.2.1 i hi
  · rw [up_q (by rcases hq with z | z <;> subst z <;> decide)]; exact h.2.2 i hi
theorem SayR.mem {G G' g : mz_S} {n N tt B op l : Nat} {s : pS} (h : SayR G G' l (700 * tt + B)) (hr : RdR G' n N tt B op s g) : SayR G g l (700 * tt + B) := by
  refine ⟨h.1.tr (hr.1.sub (by decide) (by decide)), fun i hi => ?_, fun i hi => ?_⟩
  · rw [hr.1.1 124 (by decide) (by decide), hr.1.1 126 (by decide) (by decide)]; exact h.2.1 i hi
  · rw [hr.2.1 i hi]; exact h.2.2 i hi
theorem SayR.w {G G' : mz_S} {n N tt l m : Nat} (h : SayR G G' l m) (hW : RdW G n N tt) : RdW G' n N tt ∧ G' 119 = G 119 :=
  ⟨hW.same (h.1.1 119 (by decide) (by decide)) (h.1.2 27 (by decide)) (h.1.2 36 (by decide)), h.1.1 119 (by decide) (by decide)⟩
theorem up_ch {g : mz_S} {q i : Nat} {v : Int} (hq : q ∈ [124, 125, 126, 127, 128, 129]) : Ch [124, 125, 126, 127, 128, 129] [] g (mx_up g q i v) := (Ch.rf g).up hq (by revert hq; revert q; decide)
theorem ft_cho {t : pT} {a b c : Int} {s : pS} (h : ¬ s.2.1 = 0) (ha : ¬ a = 155) (hb : ¬ b = 155) (hc : ¬ c = 155) : pcho t a b c s = (0, s) := by
  unfold pcho
  rw [pk_bad h, if_neg (fun z => ha z.symm), if_neg (fun z => hb z.symm), if_neg (fun z => hc z.symm), pfail_bad h]
/-- the state behind a saying, as the reference has it: what loss and ban say is no code -/
def psayR (t : pT) (s : pS) : pS := if (psay t s).1 < 7 then (psay t s).2.2 else pre0 (psay t s).2.2
