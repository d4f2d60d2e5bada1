/-! the state before the first town: the reference's lags aren't measured yet -/
def IL0 (g : mz_S) : Prop := WfL0 g ∧ WfRd g ∧ (g 99 1 = g 1 0 ∧ g 99 2 = g 1 1 ∧ g 99 3 = g 1 4 ∧ True ∧ ∀ k, k < 150 → g 102 k = g 5 k ∧ g 103 k = g 6 k ∧ g 104 k = g 7 k ∧ g 105 k = g 4 k) ∧ ReRd g g ∧ g 1 1 = 0 ∧ g 1 4 = 0
theorem IL0.fr {S F : List Nat} {g g' : mz_S} (w : IL0 g) (h : Ch S F g g') (hS : ∀ q ∈ [1, 2, 3, 4, 5, 6, 7, 100, 102, 103, 104, 105], q ∉ S) (hF : ∀ f ∈ [1, 2, 3], f ∉ F) : IL0 g' := by
  have e : ∀ q ∈ [1, 2, 3, 4, 5, 6, 7, 100, 102, 103, 104, 105], g' q = g q := fun q hq => h.1 q (hS q hq) (by intro z; subst z; revert hq; decide)
  have e9 : ∀ f ∈ [1, 2, 3], g' 99 f = g 99 f := fun f hf => h.2 f (hF f hf)
  unfold IL0 WfL0 WfRd ReRd at w ⊢
  rw [e 1 (by decide), e 2 (by decide), e 3 (by decide), e 4 (by decide), e 5 (by decide), e 6 (by decide), e 7 (by decide), e 100 (by decide), e 102 (by decide), e 103 (by decide), e 104 (by decide), e 105 (by decide), e9 1 (by decide), e9 2 (by decide), e9 3 (by decide)]
  exact w
theorem IL0.go {g g2 : mz_S} {n : Int} (w : IL0 g) (h : Ch [1, 8, 179] [0, 1] g g2) (e0 : g2 1 0 = n) (e1 : ∀ p, p ≠ 0 → g2 1 p = g 1 p) (e9 : g2 99 1 = n) (hn : g 1 0 ≤ n ∧ n ≤ 999) : IL0 g2 := by
  have e : ∀ q ∈ [2, 3, 4, 5, 6, 7, 100, 102, 103, 104, 105], g2 q = g q := fun q hq => h.1 q (by revert hq; revert q; decide) (by intro z; subst z; revert hq; decide)
  obtain ⟨⟨a1, a2, a3, a4, a5, a6⟩, ⟨b1, b2, b3, b4⟩, ⟨c1, c2, c3, c4, c5⟩, d1, d2⟩ := w
  unfold IL0 WfL0 WfRd ReRd
  rw [e 2 (by decide), e 3 (by decide), e 4 (by decide), e 5 (by decide), e 6 (by decide), e 7 (by decide), e 100 (by decide), e 102 (by decide), e 103 (by decide), e 104 (by decide), e 105 (by decide), h.2 2 (by decide), h.2 3 (by decide), e0, e9, e1 1 (by decide), e1 4 (by decide)]
  exact ⟨⟨by omega, a2, a3, a4, a5, a6⟩, ⟨b1, b2, b3, fun r hr => by have := b4 r hr; omega⟩, ⟨rfl, c2, c3, c4, c5⟩, d1, d2⟩
/-- with the lags as they would be, it is the state that all calls know -/
theorem IL0.il {g : mz_S} (w : IL0 g) : IL (cellS g 101 (encF (g 3))) := by
  obtain ⟨w1, w2, ⟨c1, c2, c3, _, c5⟩, w4, _⟩ := w
  unfold IL ReL
  have e : ∀ q, q ≠ 101 → cellS g 101 (encF (g 3)) q = g q := fun q hq => cellS_n hq
  unfold WfL0 WfRd ReRd at *
  rw [e 1 (by decide), e 2 (by decide), e 3 (by decide), e 4 (by decide), e 5 (by decide), e 6 (by decide), e 7 (by decide), e 99 (by decide), e 100 (by decide), e 102 (by decide), e 103 (by decide), e 104 (by decide), e 105 (by decide), cellS_s]
  exact ⟨w1, w2, ⟨c1, c2, c3, fun _ _ => rfl, c5⟩, w4⟩
def Inv0 (W : Int) (g : mz_S) : Prop := IL0 g ∧ WfC g ∧ IB g ∧ IE g ∧ IX g ∧ IT g ∧ IP g ∧ IC W g ∧ IW g ∧ g 9 1 = 0
def InvA (W : Int) (g : mz_S) : Prop := Inv W g ∨ Inv0 W g
theorem Inv0.noW {W : Int} {g : mz_S} (h : Inv0 W g) : g 48 4 = 0 := by
  obtain ⟨wl, wc, wb, we, wx, wt, wp, wi, iw, hB⟩ := h
  have a := iw.1.1
  rcases Int.lt_or_le 0 (g 48 4) with z | z
  · have b := (iw.1.2.1 0 z).1
    omega
  · omega
theorem Inv0.fr0 {W : Int} {F : List Nat} {g g' : mz_S} (h : Inv0 W g) (hW : 0 ≤ W) (c : Ch [] F g g') (hF : ∀ f ∈ [1, 2, 3, 10, 16, 26, 34, 35, 36, 55, 84], f ∉ F) : Inv0 (W + 1728) g' := by
  obtain ⟨wl, wc, wb, we, wx, wt, wp, wi, iw, hB⟩ := h
  have n : ∀ q : Nat, q ∉ ([] : List Nat) := fun q => List.not_mem_nil
  exact ⟨wl.fr c (fun q _ => n q) (fun f hf => hF f (by revert hf; revert f; decide)), wc.fr c (fun q _ => n q), wb.fr c (fun q _ => n q) (fun f hf => hF f (by revert hf; revert f; decide)), we.fr c (fun q _ => n q) (fun f hf => hF f (by revert hf; revert f; decide)), wx.fr c (fun q _ => n q) (fun f hf => hF f (by revert hf; revert f; decide)), wt.fr c (fun q _ => n q), wp.fr c (fun q _ => n q) (fun f hf => hF f (by revert hf; revert f; decide)), IC.wk (wi.fr c (fun q _ => n q) (fun f hf => hF f (by revert hf; revert f; decide))) (by omega), iw.fr c (fun q _ => n q) (fun f hf => hF f (by revert hf; revert f; decide)), by rw [c.1 9 (n 9) (by decide)]; exact hB⟩
theorem Inv0.badI {W r : Int} {g : mz_S} (h : Inv0 W g) (hW : 0 ≤ W) : AnsI 1 r (mx_up (mx_up g 99 0 0) 99 0 1) ∧ InvA (W + 1728) (mx_up (mx_up g 99 0 0) 99 0 1) := ⟨⟨by omega, up_s, fun z => by omega⟩, Or.inr (h.fr0 hW (ch_bad g 1) (by decide))⟩
theorem Inv0.badL {W r : Int} {g : mz_S} (h : Inv0 W g) (hW : 0 ≤ W) : AnsL 1 r (mx_up (mx_up g 99 0 0) 99 0 1) ∧ InvA (W + 1728) (mx_up (mx_up g 99 0 0) 99 0 1) := ⟨⟨by omega, up_s, fun z => by omega⟩, Or.inr (h.fr0 hW (ch_bad g 1) (by decide))⟩
/-- nothing is there -/
theorem z_town {T : Nat × (Nat → Int32)} {d : Nat} {Q : mz_K} {X : mz_X} {g : mz_S} {x : Int} (hx : R32 x) (h : g 1 1 = 0) (k : Q 0 g) : zC T (d + 2) 156 [mx_R 0, mx_I x] g Q X := sX11_isTown hx (by omega) (by rw [pI_f (by omega)]; exact k)
theorem z_brok {T : Nat × (Nat → Int32)} {d : Nat} {Q : mz_K} {X : mz_X} {g : mz_S} {x : Int} (hx : R32 x) (h : g 9 1 = 0) (k : Q 0 g) : zC T (d + 2) 157 [mx_R 0, mx_I x] g Q X := sX11_isBroker hx (by omega) (by rw [pI_f (by omega)]; exact k)
theorem z_word {T : Nat × (Nat → Int32)} {d : Nat} {Q : mz_K} {X : mz_X} {g : mz_S} {x : Int} (hx : R32 x) (h : g 48 4 = 0) (k : Q 0 g) : zC T (d + 2) 158 [mx_R 0, mx_I x] g Q X := sX11_isWord hx (by omega) (by rw [pI_f (by omega)]; exact k)
theorem z_townR {T : Nat × (Nat → Int32)} {d : Nat} {Q : mz_K} {X : mz_X} {g : mz_S} {x : Int} (hx : R32 x) (h : g 99 2 = 0) (k : Q 0 g) : zC T (d + 2) 214 [mx_R 99, mx_I x] g Q X := sX12_isTown hx (by omega) (by rw [pI_f (by omega)]; exact k)
theorem z_brokR {T : Nat × (Nat → Int32)} {d : Nat} {Q : mz_K} {X : mz_X} {g : mz_S} {x : Int} (hx : R32 x) (h : g 99 10 = 0) (k : Q 0 g) : zC T (d + 2) 226 [mx_R 99, mx_I x] g Q X := sX12_isBroker hx (by omega) (by rw [pI_f (by omega)]; exact k)
theorem z_wordR {T : Nat × (Nat → Int32)} {d : Nat} {Q : mz_K} {X : mz_X} {g : mz_S} {x : Int} (hx : R32 x) (h : g 99 55 = 0) (k : Q 0 g) : zC T (d + 2) 276 [mx_R 99, mx_I x] g Q X := by
  refine zX12_isWord ?_
  rw [h]
  refine sX12_withinW hx (by omega) (by show R64 (w32 (0 - 1)); decide) ⟨pI_01 _, ?_⟩
  rw [pI_f (by rw [show w32 (0 - 1) = -1 by decide]; omega)]
  exact k
