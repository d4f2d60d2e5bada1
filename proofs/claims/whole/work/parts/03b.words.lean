/-! the tables' words, by chunk and place -/
def mx_tch (k : Nat) : List Cond := match k with
  | 0 => k2_sels lw_privs
  | 1 => tables_1_1
  | 2 => tables_1_2
  | 3 => tables_1_3
  | 4 => tables_1_4
  | 5 => tables_1_5
  | 6 => tables_1_6
  | 7 => tables_1_7
  | 8 => tables_1_8
  | 9 => tables_1_9
  | 10 => tables_1_10
  | 11 => tables_1_11
  | 12 => tables_1_12
  | _ => []
theorem mx_tch_in (k : Nat) {w : Cond} (h : w ∈ mx_tch k) : w ∈ lw_tbl := by
  unfold lw_tbl tables_1
  unfold mx_tch at h
  split at h
  · exact List.mem_append_left _ h
  · exact List.mem_append_right _ (List.mem_append_left _ h)
  · exact List.mem_append_right _ (List.mem_append_right _ (List.mem_append_left _ h))
  · exact List.mem_append_right _ (List.mem_append_right _ (List.mem_append_right _ (List.mem_append_left _ h)))
  · exact List.mem_append_right _ (List.mem_append_right _ (List.mem_append_right _ (List.mem_append_right _ (List.mem_append_left _ h))))
  · exact List.mem_append_right _ (List.mem_append_right _ (List.mem_append_right _ (List.mem_append_right _ (List.mem_append_right _ (List.mem_append_left _ h)))))
  · exact List.mem_append_right _ (List.mem_append_right _ (List.mem_append_right _ (List.mem_append_right _ (List.mem_append_right _ (List.mem_append_right _ (List.mem_append_left _ h))))))
  · exact List.mem_append_right _ (List.mem_append_right _ (List.mem_append_right _ (List.mem_append_right _ (List.mem_append_right _ (List.mem_append_right _ (List.mem_append_right _ (List.mem_append_left _ h)))))))
  · exact List.mem_append_right _ (List.mem_append_right _ (List.mem_append_right _ (List.mem_append_right _ (List.mem_append_right _ (List.mem_append_right _ (List.mem_append_right _ (List.mem_append_right _ (List.mem_append_left _ h))))))))
  · exact List.mem_append_right _ (List.mem_append_right _ (List.mem_append_right _ (List.mem_append_right _ (List.mem_append_right _ (List.mem_append_right _ (List.mem_append_right _ (List.mem_append_right _ (List.mem_append_right _ (List.mem_append_left _ h)))))))))
  · exact List.mem_append_right _ (List.mem_append_right _ (List.mem_append_right _ (List.mem_append_right _ (List.mem_append_right _ (List.mem_append_right _ (List.mem_append_right _ (List.mem_append_right _ (List.mem_append_right _ (List.mem_append_right _ (List.mem_append_left _ h))))))))))
  · exact List.mem_append_right _ (List.mem_append_right _ (List.mem_append_right _ (List.mem_append_right _ (List.mem_append_right _ (List.mem_append_right _ (List.mem_append_right _ (List.mem_append_right _ (List.mem_append_right _ (List.mem_append_right _ (List.mem_append_right _ (List.mem_append_left _ h)))))))))))
  · exact List.mem_append_right _ (List.mem_append_right _ (List.mem_append_right _ (List.mem_append_right _ (List.mem_append_right _ (List.mem_append_right _ (List.mem_append_right _ (List.mem_append_right _ (List.mem_append_right _ (List.mem_append_right _ (List.mem_append_right _ (List.mem_append_right _ (h))))))))))))
  · cases h
/-- words that hold on through the run by laws of their own -/
def mx_nwK (w : Cond) : Bool := match w with
  | .fieldLinkNest _ _ _ _ _ _ => true
  | .methodLinkNest _ _ _ _ => true
  | .declares _ => true
  | .castable _ _ => true
  | _ => false
def mx_ok (w : Cond) : Bool := goodWord w || mx_nwK w
theorem mx_nw_warm {w : Cond} (hw : mx_nwK w = true) {s U : State} (hW : s.WarmedH U.vm) (h : va_Nw w s) : va_Nw w U := by
  unfold mx_nwK at hw
  split at hw
  · exact va_Nw.warmF hW h
  · exact va_Nw.warmM hW h
  · exact va_Nw.warmD hW h
  · exact va_Nw.warmC hW h
  · cases hw
def mx_Ts : List Cond := lw_tbl.filter goodWord
theorem mx_inTs {w : Cond} (k j : Nat) (h : (mx_tch k)[j]? = some w) (hg : goodWord w = true) : w ∈ mx_Ts := List.mem_filter.mpr ⟨mx_tch_in k (List.mem_of_getElem? h), hg⟩
def mx_ly0 : List (Nat × Nat) := [(1, 116), (1, 118), (1, 120), (1, 122), (1, 124), (1, 126), (1, 128)]
theorem mx_lyo0 : ∀ k, k < 7 → (mx_tch (mx_ly0.getD k (0, 0)).1)[(mx_ly0.getD k (0, 0)).2]? = some (u_lay RX0 TX0 k) ∧ goodWord (u_lay RX0 TX0 k) = true := by decide +kernel
def mx_ly1 : List (Nat × Nat) := [(2, 169), (2, 171), (2, 173), (2, 175), (2, 177), (2, 179), (2, 181), (2, 183), (2, 185), (2, 187), (2, 189), (2, 191), (2, 193), (2, 195)]
theorem mx_lyo1 : ∀ k, k < 14 → (mx_tch (mx_ly1.getD k (0, 0)).1)[(mx_ly1.getD k (0, 0)).2]? = some (u_lay RX1 TX1 k) ∧ goodWord (u_lay RX1 TX1 k) = true := by decide +kernel
def mx_ly2 : List (Nat × Nat) := [(2, 226), (2, 228), (2, 230), (2, 232), (2, 234), (2, 236), (2, 238), (3, 0), (3, 2), (3, 4), (3, 6), (3, 8), (3, 10), (3, 12), (3, 14), (3, 16), (3, 18), (3, 20), (3, 22)]
theorem mx_lyo2 : ∀ k, k < 19 → (mx_tch (mx_ly2.getD k (0, 0)).1)[(mx_ly2.getD k (0, 0)).2]? = some (u_lay RX2 TX2 k) ∧ goodWord (u_lay RX2 TX2 k) = true := by decide +kernel
def mx_ly3 : List (Nat × Nat) := [(2, 48), (2, 50), (2, 52), (2, 54), (2, 56), (2, 58), (2, 60), (2, 62), (2, 64), (2, 66), (2, 68), (2, 70), (2, 72), (2, 74), (2, 76)]
theorem mx_lyo3 : ∀ k, k < 15 → (mx_tch (mx_ly3.getD k (0, 0)).1)[(mx_ly3.getD k (0, 0)).2]? = some (u_lay RX3 TX3 k) ∧ goodWord (u_lay RX3 TX3 k) = true := by decide +kernel
def mx_ly4 : List (Nat × Nat) := [(3, 50), (3, 52), (3, 54), (3, 56), (3, 58), (3, 60), (3, 62), (3, 64), (3, 66), (3, 68), (3, 70), (3, 72), (3, 74), (3, 76), (3, 78), (3, 80), (3, 82)]
theorem mx_lyo4 : ∀ k, k < 17 → (mx_tch (mx_ly4.getD k (0, 0)).1)[(mx_ly4.getD k (0, 0)).2]? = some (u_lay RX4 TX4 k) ∧ goodWord (u_lay RX4 TX4 k) = true := by decide +kernel
def mx_ly5 : List (Nat × Nat) := [(1, 66), (1, 68), (1, 70), (1, 72), (1, 74), (1, 76), (1, 78), (1, 80), (1, 82), (1, 84)]
theorem mx_lyo5 : ∀ k, k < 10 → (mx_tch (mx_ly5.getD k (0, 0)).1)[(mx_ly5.getD k (0, 0)).2]? = some (u_lay RX5 TX5 k) ∧ goodWord (u_lay RX5 TX5 k) = true := by decide +kernel
def mx_ly6 : List (Nat × Nat) := [(1, 152), (1, 154), (1, 156), (1, 158), (1, 160), (1, 162), (1, 164), (1, 166), (1, 168), (1, 170), (1, 172), (1, 174), (1, 176)]
theorem mx_lyo6 : ∀ k, k < 13 → (mx_tch (mx_ly6.getD k (0, 0)).1)[(mx_ly6.getD k (0, 0)).2]? = some (u_lay RX6 TX6 k) ∧ goodWord (u_lay RX6 TX6 k) = true := by decide +kernel
def mx_ly7 : List (Nat × Nat) := [(1, 239), (2, 1), (2, 3), (2, 5), (2, 7), (2, 9), (2, 11), (2, 13), (2, 15), (2, 17), (2, 19), (2, 21), (2, 23)]
theorem mx_lyo7 : ∀ k, k < 13 → (mx_tch (mx_ly7.getD k (0, 0)).1)[(mx_ly7.getD k (0, 0)).2]? = some (u_lay RX7 TX7 k) ∧ goodWord (u_lay RX7 TX7 k) = true := by decide +kernel
def mx_ly8 : List (Nat × Nat) := [(1, 197), (1, 199), (1, 201), (1, 203), (1, 205), (1, 207)]
theorem mx_lyo8 : ∀ k, k < 6 → (mx_tch (mx_ly8.getD k (0, 0)).1)[(mx_ly8.getD k (0, 0)).2]? = some (u_lay RX8 TX8 k) ∧ goodWord (u_lay RX8 TX8 k) = true := by decide +kernel
def mx_ly9 : List (Nat × Nat) := [(3, 97), (3, 99), (3, 101)]
theorem mx_lyo9 : ∀ k, k < 3 → (mx_tch (mx_ly9.getD k (0, 0)).1)[(mx_ly9.getD k (0, 0)).2]? = some (u_lay RX9 TX9 k) ∧ goodWord (u_lay RX9 TX9 k) = true := by decide +kernel
def mx_ly10 : List (Nat × Nat) := [(2, 104), (2, 106), (2, 108), (2, 110), (2, 112), (2, 114), (2, 116), (2, 118), (2, 120), (2, 122), (2, 124), (2, 126), (2, 128), (2, 130), (2, 132), (2, 134), (2, 136), (2, 138)]
theorem mx_lyo10 : ∀ k, k < 18 → (mx_tch (mx_ly10.getD k (0, 0)).1)[(mx_ly10.getD k (0, 0)).2]? = some (u_lay RX10 TX10 k) ∧ goodWord (u_lay RX10 TX10 k) = true := by decide +kernel
def mx_ly11 : List (Nat × Nat) := [(3, 115), (3, 117), (3, 119), (3, 121), (3, 123), (3, 125), (3, 127), (3, 129), (3, 131), (3, 133), (3, 135)]
theorem mx_lyo11 : ∀ k, k < 11 → (mx_tch (mx_ly11.getD k (0, 0)).1)[(mx_ly11.getD k (0, 0)).2]? = some (u_lay RX11 TX11 k) ∧ goodWord (u_lay RX11 TX11 k) = true := by decide +kernel
def mx_ly12 : List (Nat × Nat) := [(9, 21), (9, 23), (9, 25), (9, 27), (9, 29), (9, 31), (9, 33), (9, 35), (9, 37), (9, 39), (9, 41), (9, 43), (9, 45), (9, 47), (9, 49), (9, 51), (9, 53), (9, 55), (9, 57), (9, 59), (9, 61), (9, 63), (9, 65), (9, 67), (9, 69), (9, 71), (9, 73), (9, 75), (9, 77), (9, 79), (9, 81), (9, 83), (9, 85), (9, 87), (9, 89), (9, 91), (9, 93), (9, 95), (9, 97), (9, 99), (9, 101), (9, 103), (9, 105), (9, 107), (9, 109), (9, 111), (9, 113), (9, 115), (9, 117), (9, 119), (9, 121), (9, 123), (9, 125), (9, 127), (9, 129), (9, 131), (9, 133), (9, 135), (9, 137), (9, 139), (9, 141), (9, 143), (9, 145), (9, 147), (9, 149), (9, 151), (9, 153), (9, 155), (9, 157), (9, 159), (9, 161), (9, 163), (9, 165), (9, 167), (9, 169), (9, 171), (9, 173), (9, 175), (9, 177), (9, 179), (9, 181), (9, 183), (9, 185), (9, 187), (9, 189), (9, 191), (9, 193), (9, 195), (9, 197), (9, 199), (9, 201), (9, 203), (9, 205), (9, 207), (9, 209), (9, 211), (9, 213), (9, 215), (9, 217), (9, 219), (9, 221), (9, 223), (9, 225), (9, 227), (9, 229), (9, 231)]
theorem mx_lyo12 : ∀ k, k < 106 → (mx_tch (mx_ly12.getD k (0, 0)).1)[(mx_ly12.getD k (0, 0)).2]? = some (u_lay RX12 TX12 k) ∧ goodWord (u_lay RX12 TX12 k) = true := by decide +kernel
/-- what is known of the classes -/
def mx_cf (ci : Nat) (C : String) (T : u_T) (N : Nat) : Prop := mx_ns ci = N ∧ (∀ w ∈ u_ws C T N, w ∈ mx_Ts) ∧ (∀ k, k < N → parseFieldDescriptor (T k).2.2.1 = some (mx_ty ci k)) ∧ (∀ a, a < N → ∀ b, b < N → a ≠ b → (T a).2.1 ≠ (T b).2.1)
theorem mx_cf_of {ci : Nat} {C : String} {T : u_T} {N : Nat} {ly : List (Nat × Nat)} (h0 : mx_ns ci = N) (h1 : ∀ k, k < N → (mx_tch (ly.getD k (0, 0)).1)[(ly.getD k (0, 0)).2]? = some (u_lay C T k) ∧ goodWord (u_lay C T k) = true) (h2 : ∀ k, k < N → parseFieldDescriptor (T k).2.2.1 = some (mx_ty ci k)) (h3 : ∀ a, a < N → ∀ b, b < N → a ≠ b → (T a).2.1 ≠ (T b).2.1) : mx_cf ci C T N := by
  refine ⟨h0, fun w hw => ?_, h2, h3⟩
  unfold u_ws at hw
  obtain ⟨k, hk, rfl⟩ := List.mem_map.mp hw
  have hk := h1 k (List.mem_range.mp hk)
  exact mx_inTs _ _ hk.1 hk.2
theorem mx_cls {ci : Nat} {C : String} {T : u_T} {N : Nat} (h : vwCl[ci]? = some (C, T, N)) : mx_cf ci C T N := by
  match ci, h with
  | 0, h => cases h; exact mx_cf_of rfl mx_lyo0 tyX0_ok nmX0
  | 1, h => cases h; exact mx_cf_of rfl mx_lyo1 tyX1_ok nmX1
  | 2, h => cases h; exact mx_cf_of rfl mx_lyo2 tyX2_ok nmX2
  | 3, h => cases h; exact mx_cf_of rfl mx_lyo3 tyX3_ok nmX3
  | 4, h => cases h; exact mx_cf_of rfl mx_lyo4 tyX4_ok nmX4
  | 5, h => cases h; exact mx_cf_of rfl mx_lyo5 tyX5_ok nmX5
  | 6, h => cases h; exact mx_cf_of rfl mx_lyo6 tyX6_ok nmX6
  | 7, h => cases h; exact mx_cf_of rfl mx_lyo7 tyX7_ok nmX7
  | 8, h => cases h; exact mx_cf_of rfl mx_lyo8 tyX8_ok nmX8
  | 9, h => cases h; exact mx_cf_of rfl mx_lyo9 tyX9_ok nmX9
  | 10, h => cases h; exact mx_cf_of rfl mx_lyo10 tyX10_ok nmX10
  | 11, h => cases h; exact mx_cf_of rfl mx_lyo11 tyX11_ok nmX11
  | 12, h => cases h; exact mx_cf_of rfl mx_lyo12 tyX12_ok nmX12
  | ci + 13, h => simp [vwCl] at h
