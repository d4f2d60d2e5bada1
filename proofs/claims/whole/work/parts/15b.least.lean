/-! the small machine without a count of jumps: the least thing that its steps lead to -/
def mx_A (F : mx_F) (C : mx_C) (tb : List mx_E) (Q : mx_O → mx_H → Prop) (pc : Nat) (L : mx_L) (st : List mx_v) (h : mx_H) (u : Nat × Nat) : Prop :=
  ∀ P : Nat → mx_L → List mx_v → mx_H → Nat × Nat → Prop, (∀ (J : Nat → mx_L → List mx_v → mx_H → Nat × Nat → Prop) pc L st h u, (∀ pc L st h u, J pc L st h u → P pc L st h u) → mx_B F C J Q (mx_sfx tb pc) L st h u → P pc L st h u) → P pc L st h u
theorem mx_A_in {F : mx_F} {C : mx_C} {tb : List mx_E} {Q : mx_O → mx_H → Prop} {J : Nat → mx_L → List mx_v → mx_H → Nat × Nat → Prop} {pc : Nat} {L : mx_L} {st : List mx_v} {h : mx_H} {u : Nat × Nat} (hJ : ∀ pc L st h u, J pc L st h u → mx_A F C tb Q pc L st h u) (hB : mx_B F C J Q (mx_sfx tb pc) L st h u) : mx_A F C tb Q pc L st h u :=
  fun P hP => hP J pc L st h u (fun pc L st h u z => hJ pc L st h u z P hP) hB
section MXD
variable {p : Program} {l : Launch} {e : Env} {R : Room} {s : State} {m : MethodId} {args : Array Value} {below : List Frame} {meth : Method} {c : Code} {cc : ByteArray} {nL : Nat} {own : String} {A : Nat → Prop} {D : va_G} {cy : Nat → ClassId} {sp : Nat → Nat} {F : mx_F} {al0 : List Nat} {Qe : State → Prop} {C : mx_C} {mT : Nat → Option mx_MT} {ret : Option FieldType} {F1 : Nat → Option (Nat × (Nat → Int))} {d : Nat} {Q : mx_O → mx_H → Prop} {ini : Bool}
theorem mx_sim_A (X : mx_X p l s m args meth c R cc nL own A D cy sp F) (Y : mx_Y p l e R s m args below meth c cc nL own A D cy sp al0 Qe F C mT ret F1 d Q) (hini : ini = true → meth.name = "<init>") {tb : List mx_E} (hch : mx_ch tb = true) (hok : ∀ x ∈ tb, mx_okB own cc nL ret ini mT x = true)
    (pc : Nat) (L : mx_L) (st : List mx_v) (h : mx_H) (u : Nat × Nat) (hu : u.1 ≤ F.2.2.1 ∧ u.2 ≤ F.2.2.2) (hA : mx_A F C tb Q pc L st h u) : mx_G p l e R s m args below meth c nL A D cy sp al0 Qe pc L st h u := by
  refine hA (fun pc L st h u => (u.1 ≤ F.2.2.1 ∧ u.2 ≤ F.2.2.2) → mx_G p l e R s m args below meth c nL A D cy sp al0 Qe pc L st h u) (fun J pc L st h u hJ hB hu => ?_) hu
  obtain ⟨h1, h2, h3⟩ := mx_sfx_spec tb pc hch
  rcases h3 with h3 | ⟨x, r, h3, h4⟩
  · rw [h3] at hB
    exact hB.elim
  · have h5 := mx_sim_B X Y hini (fun t L st h u hu z => hJ t L st h u z hu) _ h2 (fun z hz => hok z (h1 z hz)) L st h u hu hB x r h3
    rw [h4] at h5
    exact h5
end MXD
/-- the methods' meaning, to a depth -/
def mx_CA (mT : Nat → Option mx_MT) (mB : Nat → List mx_E) (F1 : Nat → Option (Nat × (Nat → Int))) : Nat → mx_C
  | 0 => fun _ _ _ _ => False
  | d + 1 => fun k as h Q => match mT k with
    | some t => (match Nat.ble (mx_ent as).length (mx_ml t) with
      | true => ∃ Q0 : mx_O → mx_H → Prop, (∀ o h, Q0 o h → Q o h) ∧ mx_A (F1, mx_mt t, (mx_mc t, mx_ms t)) (mx_CA mT mB F1 d) (mB k) Q0 0 (mx_loc as (mx_ml t)) [] h (0, 0)
      | false => False)
    | none => False
theorem mx_CA_mono {mT : Nat → Option mx_MT} {mB : Nat → List mx_E} {F1 : Nat → Option (Nat × (Nat → Int))} {d k : Nat} {as : List mx_v} {h : mx_H} {Q Q' : mx_O → mx_H → Prop} (hQ : ∀ o h, Q o h → Q' o h) (hC : mx_CA mT mB F1 d k as h Q) : mx_CA mT mB F1 d k as h Q' := by
  match d, hC with
  | d + 1, hC =>
    unfold mx_CA at hC ⊢
    cases ht : mT k with
    | none => simp only [ht] at hC
    | some t =>
      simp only [ht] at hC ⊢
      cases hb : Nat.ble (mx_ent as).length (mx_ml t) with
      | false => simp only [hb] at hC
      | true =>
        simp only [hb] at hC ⊢
        obtain ⟨Q0, h1, h2⟩ := hC
        exact ⟨Q0, fun o h z => hQ o h (h1 o h z), h2⟩
theorem mx_soundA {mT : Nat → Option mx_MT} {mB : Nat → List mx_E} {F1 : Nat → Option (Nat × (Nat → Int))} (hT : mx_tok mT mB) {l : Launch} (hl : l.stackTraces = false) {D : va_G} {cy : Nat → ClassId} {sp : Nat → Nat} :
    ∀ (d k : Nat) (t : mx_MT) (as : List mx_v) (h : mx_H) (Q : mx_O → mx_H → Prop), mT k = some t → mx_CA mT mB F1 d k as h Q → mx_M l D cy sp F1 d t as h Q
  | 0, _, _, _, _, _, _, hC => hC.elim
  | d + 1, k, t, as, h, Q, hk, hC => by
    obtain ⟨hm, hch, hok, hho⟩ := hT k t hk
    unfold mx_CA at hC
    simp only [hk] at hC
    split at hC
    · next hle =>
      obtain ⟨Q0, hsub, hC⟩ := hC
      intro al vs sz hal hwf hwl hrs
      have hle := Nat.le_of_ble_eq_true hle
      have body : ∀ (p : Program) (e : Env) (s : State) (m : MethodId) (args : Array Value) (below : List Frame) (meth : Method) (c : Code) (s₁ : State), BodyLoose p l (mx_my t) (headSpec (mx_ws t) (mx_rm (d + 1) t)) (mx_mb t) (mx_ml t) (mx_mr t) e s m args below meth c s₁ → c.maxLocals = mx_ml t → c.exceptionTable.toList = tableOf (mx_mh t) → va_Pc vs (mx_Pb D cy sp F1 al h sz) args s →
          W p l e (headSpec (mx_ws t) (mx_rm (d + 1) t)).room s m args below meth c s.heap [] 0 0 (vx_MQ below (mx_Qc D cy sp al h sz Q) (mx_XC D cy al h sz Q) args s (mx_mc t) (mx_ms t) (va_A (mx_wd cy al h) sz)) (entryFrame m args (mx_ml t)) := by
        intro p e s m args below meth c s₁ B hml htab hv
        obtain ⟨rfl, hsz, hP, hK, hD0, henv, hnw⟩ := hv
        subst hsz
        have hts := atoms_spec (ws := mx_ws t) B.pre
        have hX : mx_X p l s m vs.toArray meth c (headSpec (mx_ws t) (mx_rm (d + 1) t)).room (mx_mb t) (mx_ml t) (mx_my t).cls (va_A (mx_wd cy al h) s.heap.size) D cy sp (F1, mx_mt t, (mx_mc t, mx_ms t)) := by
          refine ⟨B.exec, B.bytes, hml, findClass_of_methodNamed B.named, fun w hw => hts w (List.mem_cons_of_mem _ hw), hK, fun q hq => Or.inr hq, Nat.le_refl _, Nat.le_refl _, henv, hl, ?_, ?_, B.notSynchronized, hnw⟩
          · show 8 ≤ d + 1 + 8
            omega
          · show 200 ≤ 64 * (d + 1) + 200
            omega
        have hY : mx_Y p l e (headSpec (mx_ws t) (mx_rm (d + 1) t)).room s m vs.toArray below meth c (mx_mb t) (mx_ml t) (mx_my t).cls (va_A (mx_wd cy al h) s.heap.size) D cy sp al (mx_Qe below D cy sp al h Q vs.toArray s (mx_mc t) (mx_ms t)) (F1, mx_mt t, (mx_mc t, mx_ms t)) (mx_CA mT mB F1 d) mT (mx_mr t) F1 d Q0 := by
          refine ⟨fun k2 t2 as2 h2 Q2 hk2 hC2 => ⟨(hT k2 t2 hk2).1, mx_soundA hT hl d k2 t2 as2 h2 Q2 hk2 hC2⟩, fun _ _ z => z, ⟨?_, ?_⟩, ?_, ?_, ?_, ?_, ?_, ?_, ?_, ?_⟩
          · show d + 9 ≤ d + 1 + 8
            omega
          · show 64 * d + 264 ≤ 64 * (d + 1) + 200
            omega
          · intro pc L n h u hret hu hQ hd
            exact mx_e_iret hX (B.returns.trans hret) hu (hsub _ _ hQ) hd
          · intro pc L n h u hret hn hu hQ hd
            exact mx_e_zret hX (B.returns.trans hret) hn hu (hsub _ _ hQ) hd
          · intro pc L n h u hret hn hu hQ hd
            exact mx_e_nret hX (B.returns.trans hret) (mx_nar_c hn) hu (hsub _ _ hQ) hd
          · intro pc L n h u hret hn hu hQ hd
            exact mx_e_nret hX (B.returns.trans hret) (mx_nar_b hn) hu (hsub _ _ hQ) hd
          · intro pc L n h u hret hu hQ hd
            exact mx_e_lret hX (B.returns.trans hret) hu (hsub _ _ hQ) hd
          · intro pc L h u hret hu hQ hd
            exact mx_e_vret hX (B.returns.trans hret) hu (hsub _ _ hQ) hd
          · intro pc L x h u hu hcatch hout
            intro al2 H2 locs2 ls2 vs2 q2 ce2 g1 g2 hx4 g4 g5 g6
            have row : ∀ (j : Nat) (r : Nat × Nat × Nat × Nat) (q : Nat × Nat × Nat × Nat × Nat), (mx_mh t)[j]? = some r → (mx_mt t)[j]? = some q → ¬ (q.1 ≤ pc ∧ pc < q.2.1 ∧ q.2.2.1 = x) →
                covers ⟨r.1, r.2.1, r.2.2.1, r.2.2.2⟩ pc = false ∨ (r.2.2.2 ≠ 0 ∧ ∃ y : Nat, y < 4 ∧ y ≠ x ∧ Cond.classLink (mx_my t).cls r.2.2.2 (mx_ex y) ∈ mx_Ts) := by
              intro j r q hr hq hn
              obtain ⟨e1, e2, e3, e4, e5, -, -⟩ := hho.2 j r q hr hq
              by_cases hcv : q.1 ≤ pc ∧ pc < q.2.1
              · exact Or.inr ⟨e4, q.2.2.1, e3, fun z => hn ⟨hcv.1, hcv.2, z⟩, e5⟩
              · left
                show (decide (r.1 ≤ pc) && decide (pc < r.2.1)) = false
                rw [e1, e2]
                simp only [Bool.and_eq_false_iff, decide_eq_false_iff_not]
                omega
            have other : ∀ (j : Nat) (r : Nat × Nat × Nat × Nat), (mx_mh t)[j]? = some r → ∃ q, (mx_mt t)[j]? = some q := by
              intro j r hr
              have hj : j < (mx_mt t).length := by rw [← hho.1]; exact (List.getElem?_eq_some_iff.mp hr).1
              exact ⟨_, List.getElem?_eq_getElem hj⟩
            rcases mx_hnd_spec pc x (mx_mt t) with ⟨h1, h2⟩ | ⟨j, q, h1, h2, h3, h4⟩
            · refine mx_e_out hX (fun z hz => ?_) hu (hsub _ _ (hout h1)) al2 H2 locs2 ls2 vs2 q2 ce2 g1 g2 hx4 g4 g5 g6
              rw [htab] at hz
              obtain ⟨r, hr, rfl⟩ := List.mem_map.mp hz
              obtain ⟨j, hj⟩ := List.getElem?_of_mem hr
              obtain ⟨q, hq⟩ := other j r hj
              exact row j r q hj hq (h2 j q hq)
            · have hj : j < (mx_mh t).length := by rw [hho.1]; exact (List.getElem?_eq_some_iff.mp h1).1
              have hr : (mx_mh t)[j]? = some ((mx_mh t)[j]'hj) := List.getElem?_eq_getElem hj
              generalize (mx_mh t)[j]'hj = r at hr
              obtain ⟨e1, e2, e3, e4, e5, e6, e7⟩ := hho.2 j r q hr h1
              have e8 : q.2.2.1 = x := h2.2.2
              have hspl : mx_mh t = (mx_mh t).take j ++ r :: (mx_mh t).drop (j + 1) := by
                have z := List.getElem?_eq_some_iff.mp hr
                obtain ⟨z1, z2⟩ := z
                rw [← z2, ← List.drop_eq_getElem_cons z1, List.take_append_drop]
              refine mx_e_catch hX (pc := pc) (x := x) (i := q.2.2.2.1) (t := q.2.2.2.2) (tableOf ((mx_mh t).take j)) ⟨r.1, r.2.1, r.2.2.1, r.2.2.2⟩ (tableOf ((mx_mh t).drop (j + 1))) ?_ (fun y hy => ?_) ?_ e4 (by rw [← e8]; exact e5) (mx_casts hx4) e6 e7 (hcatch _ _ h3) al2 H2 locs2 ls2 vs2 q2 ce2 g1 g2 hx4 g4 g5 g6
              · rw [htab]
                conv => lhs; rw [hspl]
                unfold tableOf
                rw [List.map_append, List.map_cons]
              · obtain ⟨r2, hr2, rfl⟩ := List.mem_map.mp hy
                obtain ⟨j2, hj2⟩ := List.getElem?_of_mem hr2
                have hlt : j2 < j := by
                  have z := (List.getElem?_eq_some_iff.mp hj2).1
                  rw [List.length_take] at z
                  omega
                rw [List.getElem?_take, if_pos hlt] at hj2
                obtain ⟨q2, hq2⟩ := other j2 r2 hj2
                exact row j2 r2 q2 hj2 hq2 (h4 j2 q2 hlt hq2)
              · show (decide (r.1 ≤ pc) && decide (pc < r.2.1)) = true
                rw [e1, e2]
                simp only [Bool.and_eq_true, decide_eq_true_eq]
                exact ⟨h2.1, h2.2.1⟩
          · intro pc L st x ik h u ho hx4 hF hw1 hw2 hu hst hQ d0 d3 d4 d7
            have hnil : mx_mh t = [] := by
              have hF : mx_mt t = [] := hF
              have z := hho.1
              rw [hF] at z
              exact List.eq_nil_of_length_eq_zero z
            refine mx_e_throw hX hx4 (fun z hz => ?_) (mx_fit hx4) hw1 hw2 ?_ hu ⟨Nat.le_refl _, Nat.le_refl _⟩ hst (hsub _ _ hQ) d0 d3 d4 d7
            · rw [htab, hnil] at hz
              cases hz
            · rw [ho]
              exact mx_thr hx4
        have hini : decide (mx_mk t = 2) = true → meth.name = "<init>" := by
          intro z
          have z := hm.2.2.2.2.2.2.2.2 (of_decide_eq_true z)
          rw [(name_of_methodNamed B.named B.method).1]
          exact z.2.1
        rw [lg_entry_eq]
        exact mx_sim_A hX hY hini hch hok 0 _ _ _ _ ⟨Nat.zero_le _, Nat.zero_le _⟩ hC al s.heap [] _ [] ⟨⟨hal, [], (List.append_nil _).symm⟩, hwf, hwl, hP, hD0.self, va_S.rf⟩ (mx_loc_lr hrs hle) rfl
      by_cases hh : mx_mh t = []
      · refine vx_ofW (cc := mx_mb t) (maxL := mx_ml t) (ret := mx_mr t) hm.2.1 (ws' := mx_Ts) (by unfold mx_ws; rw [mx_cw_code hh]) ?_
        intro p e s m args below meth c s₁ B hml htab hv
        refine body p e s m args below meth c s₁ B hml ?_ hv
        rw [hh]
        exact List.eq_nil_iff_forall_not_mem.mpr htab
      · refine vx_ofWH (cc := mx_mb t) (maxL := mx_ml t) (ret := mx_mr t) (hh := mx_mh t) hm.2.1 (ws' := mx_Ts) (by unfold mx_ws; rw [mx_cw_with hh]) ?_
        intro p e s m args below meth c s₁ B hml hv
        refine body p e s m args below meth c s₁ B hml ?_ hv
        have hw := atoms_spec (ws := mx_ws t) B.pre (mx_cw t) List.mem_cons_self
        rw [mx_cw_with hh] at hw
        exact vx_table (x := mx_my t) B hw
    · exact hC.elim
