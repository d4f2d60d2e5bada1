/-! the law's wrappers -/
theorem in01 : mx_in 0 1 := zin (by decide) (by decide) (by decide)
theorem wL_go {T : Nat × (Nat → Int32)} {d : Nat} {Q : mz_K} {X : mz_X} {g : mz_S} {x1 : Int} (k : zC T d 160 [mx_R 0, mx_I x1] g (fun r g1 => Q 0 (mx_up g1 179 0 (w32 r))) (fun e g1 => (e = 1 ∧ Q 1 g1) ∨ (e = 2 ∧ Q 2 g1))) : zC T (d + 1) 351 [mx_R 0, mx_I x1, mx_R 179] g Q X := by
  refine zL_go ⟨by decide, by decide, mz_CA_mono (fun r g1 z => ?_) (fun e g1 z => ?_) k⟩
  · refine ⟨in01, ?_⟩
    rintro _ rfl
    rw [show mx_at 0 = 0 from by decide]
    exact z
  · rcases z with ⟨rfl, z⟩ | ⟨rfl, z⟩
    · exact zL_go_13 z
    · exact zL_go_16 z
theorem wL_road {T : Nat × (Nat → Int32)} {d : Nat} {Q : mz_K} {X : mz_X} {g : mz_S} {x1 x2 x3 : Int} (k : zC T d 162 [mx_R 0, mx_I x1, mx_I x2, mx_I x3] g (fun r g1 => Q 0 (mx_up g1 179 0 (w32 r))) (fun e g1 => (e = 0 ∧ Q 1 g1) ∨ (e = 1 ∧ Q 2 g1))) : zC T (d + 1) 352 [mx_R 0, mx_I x1, mx_I x2, mx_I x3, mx_R 179] g Q X := by
  refine zL_road ⟨by decide, by decide, mz_CA_mono (fun r g1 z => ?_) (fun e g1 z => ?_) k⟩
  · refine ⟨in01, ?_⟩
    rintro _ rfl
    rw [show mx_at 0 = 0 from by decide]
    exact z
  · rcases z with ⟨rfl, z⟩ | ⟨rfl, z⟩
    · exact zL_road_17 z
    · exact zL_road_21 z
theorem wL_lag {T : Nat × (Nat → Int32)} {d : Nat} {Q : mz_K} {X : mz_X} {g : mz_S} {x1 x2 : Int} (k : zC T d 163 [mx_R 0, mx_I x1, mx_I x2] g (fun r g1 => Q 0 (mx_up g1 179 0 (w32 r))) (fun e g1 => (e = 0 ∧ Q 1 g1))) : zC T (d + 1) 353 [mx_R 0, mx_I x1, mx_I x2, mx_R 179] g Q X := by
  refine zL_lag ⟨by decide, by decide, mz_CA_mono (fun r g1 z => ?_) (fun e g1 z => ?_) k⟩
  · refine ⟨in01, ?_⟩
    rintro _ rfl
    rw [show mx_at 0 = 0 from by decide]
    exact z
  · obtain ⟨rfl, z⟩ := z
    exact zL_lag_15 z
theorem wL_rate {T : Nat × (Nat → Int32)} {d : Nat} {Q : mz_K} {X : mz_X} {g : mz_S} {x1 x2 x3 : Int} (k : zC T d 164 [mx_R 0, mx_I x1, mx_I x2, mx_I x3] g (fun r g1 => Q 0 (mx_up g1 179 0 (w32 r))) (fun e g1 => (e = 0 ∧ Q 1 g1) ∨ (e = 1 ∧ Q 2 g1))) : zC T (d + 1) 354 [mx_R 0, mx_I x1, mx_I x2, mx_I x3, mx_R 179] g Q X := by
  refine zL_rate ⟨by decide, by decide, mz_CA_mono (fun r g1 z => ?_) (fun e g1 z => ?_) k⟩
  · refine ⟨in01, ?_⟩
    rintro _ rfl
    rw [show mx_at 0 = 0 from by decide]
    exact z
  · rcases z with ⟨rfl, z⟩ | ⟨rfl, z⟩
    · exact zL_rate_17 z
    · exact zL_rate_21 z
theorem wL_rateAt {T : Nat × (Nat → Int32)} {d : Nat} {Q : mz_K} {X : mz_X} {g : mz_S} {x1 x2 x3 : Int} (k : zC T d 165 [mx_R 0, mx_I x1, mx_I x2, mx_I x3] g (fun r g1 => Q 0 (mx_up g1 179 0 (w32 r))) (fun e g1 => (e = 0 ∧ Q 1 g1) ∨ (e = 1 ∧ Q 2 g1))) : zC T (d + 1) 355 [mx_R 0, mx_I x1, mx_I x2, mx_I x3, mx_R 179] g Q X := by
  refine zL_rateAt ⟨by decide, by decide, mz_CA_mono (fun r g1 z => ?_) (fun e g1 z => ?_) k⟩
  · refine ⟨in01, ?_⟩
    rintro _ rfl
    rw [show mx_at 0 = 0 from by decide]
    exact z
  · rcases z with ⟨rfl, z⟩ | ⟨rfl, z⟩
    · exact zL_rateAt_17 z
    · exact zL_rateAt_21 z
theorem wL_broker {T : Nat × (Nat → Int32)} {d : Nat} {Q : mz_K} {X : mz_X} {g : mz_S} {x1 x2 : Int} (k : zC T d 166 [mx_R 0, mx_I x1, mx_I x2] g (fun r g1 => Q 0 (mx_up g1 179 0 (w32 r))) (fun e g1 => (e = 0 ∧ Q 1 g1) ∨ (e = 1 ∧ Q 2 g1))) : zC T (d + 1) 356 [mx_R 0, mx_I x1, mx_I x2, mx_R 179] g Q X := by
  refine zL_broker ⟨by decide, by decide, mz_CA_mono (fun r g1 z => ?_) (fun e g1 z => ?_) k⟩
  · refine ⟨in01, ?_⟩
    rintro _ rfl
    rw [show mx_at 0 = 0 from by decide]
    exact z
  · rcases z with ⟨rfl, z⟩ | ⟨rfl, z⟩
    · exact zL_broker_15 z
    · exact zL_broker_19 z
theorem wL_put {T : Nat × (Nat → Int32)} {d : Nat} {Q : mz_K} {X : mz_X} {g : mz_S} {x1 x2 x3 : Int} (k : zC T d 167 [mx_R 0, mx_I x1, mx_I x2, mx_I x3] g (fun r g1 => Q 0 (mx_up g1 179 0 (w32 r))) (fun e g1 => (e = 0 ∧ Q 1 g1) ∨ (e = 1 ∧ Q 2 g1) ∨ (e = 2 ∧ Q 3 g1))) : zC T (d + 1) 357 [mx_R 0, mx_I x1, mx_I x2, mx_I x3, mx_R 179] g Q X := by
  refine zL_put ⟨by decide, by decide, mz_CA_mono (fun r g1 z => ?_) (fun e g1 z => ?_) k⟩
  · refine ⟨in01, ?_⟩
    rintro _ rfl
    rw [show mx_at 0 = 0 from by decide]
    exact z
  · rcases z with ⟨rfl, z⟩ | ⟨rfl, z⟩ | ⟨rfl, z⟩
    · exact zL_put_17 z
    · exact zL_put_21 z
    · exact zL_put_25 z
theorem wL_drawer {T : Nat × (Nat → Int32)} {d : Nat} {Q : mz_K} {X : mz_X} {g : mz_S} {x1 x2 : Int} (k : zC T d 168 [mx_R 0, mx_I x1, mx_I x2] g (fun r g1 => Q 0 (mx_up g1 179 0 (w32 r))) (fun e g1 => (e = 0 ∧ Q 1 g1) ∨ (e = 1 ∧ Q 2 g1))) : zC T (d + 1) 358 [mx_R 0, mx_I x1, mx_I x2, mx_R 179] g Q X := by
  refine zL_drawer ⟨by decide, by decide, mz_CA_mono (fun r g1 z => ?_) (fun e g1 z => ?_) k⟩
  · refine ⟨in01, ?_⟩
    rintro _ rfl
    rw [show mx_at 0 = 0 from by decide]
    exact z
  · rcases z with ⟨rfl, z⟩ | ⟨rfl, z⟩
    · exact zL_drawer_15 z
    · exact zL_drawer_19 z
theorem wL_text {T : Nat × (Nat → Int32)} {d : Nat} {Q : mz_K} {X : mz_X} {g : mz_S} {x1 x2 x3 : Int} (k : zC T d 170 [mx_R 0, mx_I x1, mx_I x2, mx_I x3] g (fun r g1 => Q 0 (mx_up g1 179 0 (w32 r))) (fun e g1 => (e = 1 ∧ Q 1 g1))) : zC T (d + 1) 359 [mx_R 0, mx_I x1, mx_I x2, mx_I x3, mx_R 179] g Q X := by
  refine zL_text ⟨by decide, by decide, mz_CA_mono (fun r g1 z => ?_) (fun e g1 z => ?_) k⟩
  · refine ⟨in01, ?_⟩
    rintro _ rfl
    rw [show mx_at 0 = 0 from by decide]
    exact z
  · obtain ⟨rfl, z⟩ := z
    exact zL_text_17 z
theorem wL_lines {T : Nat × (Nat → Int32)} {d : Nat} {Q : mz_K} {X : mz_X} {g : mz_S} {x1 x2 x3 : Int} (k : zC T d 172 [mx_R 0, mx_I x1, mx_I x2, mx_I x3] g (fun r g1 => Q 0 (mx_up g1 179 0 (w32 r))) (fun e g1 => (e = 0 ∧ Q 1 g1) ∨ (e = 1 ∧ Q 2 g1))) : zC T (d + 1) 360 [mx_R 0, mx_I x1, mx_I x2, mx_I x3, mx_R 179] g Q X := by
  refine zL_lines ⟨by decide, by decide, mz_CA_mono (fun r g1 z => ?_) (fun e g1 z => ?_) k⟩
  · refine ⟨in01, ?_⟩
    rintro _ rfl
    rw [show mx_at 0 = 0 from by decide]
    exact z
  · rcases z with ⟨rfl, z⟩ | ⟨rfl, z⟩
    · exact zL_lines_17 z
    · exact zL_lines_21 z
theorem wL_said {T : Nat × (Nat → Int32)} {d : Nat} {Q : mz_K} {X : mz_X} {g : mz_S} {x1 x2 x3 x5 x6 : Int} (k : zC T d 173 [mx_R 0, mx_I x1, mx_I x2, mx_J x3, mx_I x5, mx_I x6] g (fun r g1 => Q 0 (mx_up g1 179 0 (w32 r))) (fun e g1 => (e = 0 ∧ Q 1 g1) ∨ (e = 1 ∧ Q 2 g1))) : zC T (d + 1) 361 [mx_R 0, mx_I x1, mx_I x2, mx_J x3, mx_I x5, mx_I x6, mx_R 179] g Q X := by
  refine zL_said ⟨by decide, by decide, mz_CA_mono (fun r g1 z => ?_) (fun e g1 z => ?_) k⟩
  · refine ⟨in01, ?_⟩
    rintro _ rfl
    rw [show mx_at 0 = 0 from by decide]
    exact z
  · rcases z with ⟨rfl, z⟩ | ⟨rfl, z⟩
    · exact zL_said_21 z
    · exact zL_said_25 z
theorem wL_tell {T : Nat × (Nat → Int32)} {d : Nat} {Q : mz_K} {X : mz_X} {g : mz_S} {x1 x2 x3 x4 x5 : Int} (k : zC T d 174 [mx_R 0, mx_I x1, mx_I x2, mx_I x3, mx_I x4, mx_I x5] g (fun r g1 => Q 0 (mx_up g1 179 0 (w32 r))) (fun e g1 => (e = 0 ∧ Q 1 g1) ∨ (e = 1 ∧ Q 2 g1) ∨ (e = 2 ∧ Q 3 g1))) : zC T (d + 1) 362 [mx_R 0, mx_I x1, mx_I x2, mx_I x3, mx_I x4, mx_I x5, mx_R 179] g Q X := by
  refine zL_tell ⟨by decide, by decide, mz_CA_mono (fun r g1 z => ?_) (fun e g1 z => ?_) k⟩
  · refine ⟨in01, ?_⟩
    rintro _ rfl
    rw [show mx_at 0 = 0 from by decide]
    exact z
  · rcases z with ⟨rfl, z⟩ | ⟨rfl, z⟩ | ⟨rfl, z⟩
    · exact zL_tell_21 z
    · exact zL_tell_25 z
    · exact zL_tell_29 z
theorem wL_pay {T : Nat × (Nat → Int32)} {d : Nat} {Q : mz_K} {X : mz_X} {g : mz_S} {x1 x2 : Int} (k : zC T d 175 [mx_R 0, mx_I x1, mx_I x2] g (fun r g1 => Q 0 (mx_up g1 179 0 (w32 r))) (fun e g1 => (e = 0 ∧ Q 1 g1) ∨ (e = 2 ∧ Q 2 g1))) : zC T (d + 1) 363 [mx_R 0, mx_I x1, mx_I x2, mx_R 179] g Q X := by
  refine zL_pay ⟨by decide, by decide, mz_CA_mono (fun r g1 z => ?_) (fun e g1 z => ?_) k⟩
  · refine ⟨in01, ?_⟩
    rintro _ rfl
    rw [show mx_at 0 = 0 from by decide]
    exact z
  · rcases z with ⟨rfl, z⟩ | ⟨rfl, z⟩
    · exact zL_pay_15 z
    · exact zL_pay_19 z
theorem wL_back {T : Nat × (Nat → Int32)} {d : Nat} {Q : mz_K} {X : mz_X} {g : mz_S} {x1 : Int} (k : zC T d 176 [mx_R 0, mx_I x1] g (fun r g1 => Q 0 (mx_up g1 179 0 (w32 r))) (fun e g1 => (e = 0 ∧ Q 1 g1) ∨ (e = 2 ∧ Q 2 g1))) : zC T (d + 1) 364 [mx_R 0, mx_I x1, mx_R 179] g Q X := by
  refine zL_back ⟨by decide, by decide, mz_CA_mono (fun r g1 z => ?_) (fun e g1 z => ?_) k⟩
  · refine ⟨in01, ?_⟩
    rintro _ rfl
    rw [show mx_at 0 = 0 from by decide]
    exact z
  · rcases z with ⟨rfl, z⟩ | ⟨rfl, z⟩
    · exact zL_back_13 z
    · exact zL_back_16 z
theorem wL_twin {T : Nat × (Nat → Int32)} {d : Nat} {Q : mz_K} {X : mz_X} {g : mz_S} {x1 x2 : Int} (k : zC T d 177 [mx_R 0, mx_I x1, mx_I x2] g (fun r g1 => Q 0 (mx_up g1 179 0 (w32 r))) (fun e g1 => (e = 0 ∧ Q 1 g1) ∨ (e = 2 ∧ Q 2 g1))) : zC T (d + 1) 365 [mx_R 0, mx_I x1, mx_I x2, mx_R 179] g Q X := by
  refine zL_twin ⟨by decide, by decide, mz_CA_mono (fun r g1 z => ?_) (fun e g1 z => ?_) k⟩
  · refine ⟨in01, ?_⟩
    rintro _ rfl
    rw [show mx_at 0 = 0 from by decide]
    exact z
  · rcases z with ⟨rfl, z⟩ | ⟨rfl, z⟩
    · exact zL_twin_15 z
    · exact zL_twin_19 z
theorem wL_word {T : Nat × (Nat → Int32)} {d : Nat} {Q : mz_K} {X : mz_X} {g : mz_S} {x1 x2 : Int} (k : zC T d 178 [mx_R 0, mx_I x1, mx_I x2] g (fun r g1 => Q 0 (mx_up g1 179 0 (w32 r))) (fun e g1 => (e = 0 ∧ Q 1 g1) ∨ (e = 1 ∧ Q 2 g1))) : zC T (d + 1) 366 [mx_R 0, mx_I x1, mx_I x2, mx_R 179] g Q X := by
  refine zL_word ⟨by decide, by decide, mz_CA_mono (fun r g1 z => ?_) (fun e g1 z => ?_) k⟩
  · refine ⟨in01, ?_⟩
    rintro _ rfl
    rw [show mx_at 0 = 0 from by decide]
    exact z
  · rcases z with ⟨rfl, z⟩ | ⟨rfl, z⟩
    · exact zL_word_15 z
    · exact zL_word_19 z
theorem wL_owes {T : Nat × (Nat → Int32)} {d : Nat} {Q : mz_K} {X : mz_X} {g : mz_S} {x1 x2 x3 : Int} (k : zC T d 179 [mx_R 0, mx_I x1, mx_I x2, mx_I x3] g (fun r g1 => Q 0 (mx_up g1 179 0 (w32 r))) (fun e g1 => (e = 0 ∧ Q 1 g1) ∨ (e = 1 ∧ Q 2 g1))) : zC T (d + 1) 367 [mx_R 0, mx_I x1, mx_I x2, mx_I x3, mx_R 179] g Q X := by
  refine zL_owes ⟨by decide, by decide, mz_CA_mono (fun r g1 z => ?_) (fun e g1 z => ?_) k⟩
  · refine ⟨in01, ?_⟩
    rintro _ rfl
    rw [show mx_at 0 = 0 from by decide]
    exact z
  · rcases z with ⟨rfl, z⟩ | ⟨rfl, z⟩
    · exact zL_owes_17 z
    · exact zL_owes_21 z
theorem wL_heard {T : Nat × (Nat → Int32)} {d : Nat} {Q : mz_K} {X : mz_X} {g : mz_S} {x1 x2 x3 x4 x5 : Int} (k : zC T d 180 [mx_R 0, mx_I x1, mx_I x2, mx_I x3, mx_I x4, mx_I x5] g (fun r g1 => Q 0 (mx_up g1 179 0 (w32 r))) (fun e g1 => (e = 0 ∧ Q 1 g1) ∨ (e = 1 ∧ Q 2 g1) ∨ (e = 2 ∧ Q 3 g1))) : zC T (d + 1) 368 [mx_R 0, mx_I x1, mx_I x2, mx_I x3, mx_I x4, mx_I x5, mx_R 179] g Q X := by
  refine zL_heard ⟨by decide, by decide, mz_CA_mono (fun r g1 z => ?_) (fun e g1 z => ?_) k⟩
  · refine ⟨in01, ?_⟩
    rintro _ rfl
    rw [show mx_at 0 = 0 from by decide]
    exact z
  · rcases z with ⟨rfl, z⟩ | ⟨rfl, z⟩ | ⟨rfl, z⟩
    · exact zL_heard_21 z
    · exact zL_heard_25 z
    · exact zL_heard_29 z
theorem wL_claim {T : Nat × (Nat → Int32)} {d : Nat} {Q : mz_K} {X : mz_X} {g : mz_S} {x1 x2 : Int} (k : zC T d 181 [mx_R 0, mx_I x1, mx_I x2] g (fun r g1 => Q 0 (mx_up g1 179 0 r)) (fun e g1 => (e = 0 ∧ Q 1 g1))) : zC T (d + 1) 369 [mx_R 0, mx_I x1, mx_I x2, mx_R 179] g Q X := by
  refine zL_claim ⟨by decide, by decide, mz_CA_mono (fun r g1 z => ?_) (fun e g1 z => ?_) k⟩
  · refine ⟨in01, ?_⟩
    rintro _ rfl
    rw [show mx_at 0 = 0 from by decide]
    exact z
  · obtain ⟨rfl, z⟩ := z
    exact zL_claim_14 z
theorem wL_settle {T : Nat × (Nat → Int32)} {d : Nat} {Q : mz_K} {X : mz_X} {g : mz_S} {x1 x2 x3 x4 : Int} (k : zC T d 182 [mx_R 0, mx_I x1, mx_I x2, mx_I x3, mx_I x4] g (fun r g1 => Q 0 (mx_up g1 179 0 (w32 r))) (fun e g1 => (e = 0 ∧ Q 1 g1) ∨ (e = 1 ∧ Q 2 g1) ∨ (e = 2 ∧ Q 3 g1))) : zC T (d + 1) 370 [mx_R 0, mx_I x1, mx_I x2, mx_I x3, mx_I x4, mx_R 179] g Q X := by
  refine zL_settle ⟨by decide, by decide, mz_CA_mono (fun r g1 z => ?_) (fun e g1 z => ?_) k⟩
  · refine ⟨in01, ?_⟩
    rintro _ rfl
    rw [show mx_at 0 = 0 from by decide]
    exact z
  · rcases z with ⟨rfl, z⟩ | ⟨rfl, z⟩ | ⟨rfl, z⟩
    · exact zL_settle_19 z
    · exact zL_settle_23 z
    · exact zL_settle_27 z
theorem wL_market {T : Nat × (Nat → Int32)} {d : Nat} {Q : mz_K} {X : mz_X} {g : mz_S} {x1 x2 x3 : Int} (k : zC T d 183 [mx_R 0, mx_I x1, mx_I x2, mx_I x3] g (fun r g1 => Q 0 (mx_up g1 179 0 (w32 r))) (fun e g1 => (e = 0 ∧ Q 1 g1) ∨ (e = 1 ∧ Q 2 g1))) : zC T (d + 1) 371 [mx_R 0, mx_I x1, mx_I x2, mx_I x3, mx_R 179] g Q X := by
  refine zL_market ⟨by decide, by decide, mz_CA_mono (fun r g1 z => ?_) (fun e g1 z => ?_) k⟩
  · refine ⟨in01, ?_⟩
    rintro _ rfl
    rw [show mx_at 0 = 0 from by decide]
    exact z
  · rcases z with ⟨rfl, z⟩ | ⟨rfl, z⟩
    · exact zL_market_17 z
    · exact zL_market_21 z
theorem wL_goods {T : Nat × (Nat → Int32)} {d : Nat} {Q : mz_K} {X : mz_X} {g : mz_S} {x1 x2 x3 x4 x5 x6 : Int} (k : zC T d 184 [mx_R 0, mx_I x1, mx_I x2, mx_I x3, mx_I x4, mx_I x5, mx_I x6] g (fun r g1 => Q 0 (mx_up g1 179 0 (w32 r))) (fun e g1 => (e = 0 ∧ Q 1 g1) ∨ (e = 1 ∧ Q 2 g1) ∨ (e = 2 ∧ Q 3 g1))) : zC T (d + 1) 372 [mx_R 0, mx_I x1, mx_I x2, mx_I x3, mx_I x4, mx_I x5, mx_I x6, mx_R 179] g Q X := by
  refine zL_goods ⟨by decide, by decide, mz_CA_mono (fun r g1 z => ?_) (fun e g1 z => ?_) k⟩
  · refine ⟨in01, ?_⟩
    rintro _ rfl
    rw [show mx_at 0 = 0 from by decide]
    exact z
  · rcases z with ⟨rfl, z⟩ | ⟨rfl, z⟩ | ⟨rfl, z⟩
    · exact zL_goods_23 z
    · exact zL_goods_27 z
    · exact zL_goods_31 z
theorem wL_hidden {T : Nat × (Nat → Int32)} {d : Nat} {Q : mz_K} {X : mz_X} {g : mz_S} {x1 x2 : Int} (k : zC T d 185 [mx_R 0, mx_I x1, mx_I x2] g (fun r g1 => Q 0 (mx_up g1 179 0 r)) (fun e g1 => (e = 0 ∧ Q 1 g1))) : zC T (d + 1) 373 [mx_R 0, mx_I x1, mx_I x2, mx_R 179] g Q X := by
  refine zL_hidden ⟨by decide, by decide, mz_CA_mono (fun r g1 z => ?_) (fun e g1 z => ?_) k⟩
  · refine ⟨in01, ?_⟩
    rintro _ rfl
    rw [show mx_at 0 = 0 from by decide]
    exact z
  · obtain ⟨rfl, z⟩ := z
    exact zL_hidden_14 z
theorem wL_ring {T : Nat × (Nat → Int32)} {d : Nat} {Q : mz_K} {X : mz_X} {g : mz_S} {x1 x2 x3 : Int} (k : zC T d 186 [mx_R 0, mx_I x1, mx_I x2, mx_I x3] g (fun r g1 => Q 0 (mx_up g1 179 0 (w32 r))) (fun e g1 => (e = 1 ∧ Q 1 g1))) : zC T (d + 1) 374 [mx_R 0, mx_I x1, mx_I x2, mx_I x3, mx_R 179] g Q X := by
  refine zL_ring ⟨by decide, by decide, mz_CA_mono (fun r g1 z => ?_) (fun e g1 z => ?_) k⟩
  · refine ⟨in01, ?_⟩
    rintro _ rfl
    rw [show mx_at 0 = 0 from by decide]
    exact z
  · obtain ⟨rfl, z⟩ := z
    exact zL_ring_17 z
theorem wL_cross {T : Nat × (Nat → Int32)} {d : Nat} {Q : mz_K} {X : mz_X} {g : mz_S} {x1 x2 : Int} (k : zC T d 187 [mx_R 0, mx_I x1, mx_I x2] g (fun r g1 => Q 0 (mx_up g1 179 0 (w32 r))) (fun e g1 => (e = 1 ∧ Q 1 g1) ∨ (e = 2 ∧ Q 2 g1))) : zC T (d + 1) 375 [mx_R 0, mx_I x1, mx_I x2, mx_R 179] g Q X := by
  refine zL_cross ⟨by decide, by decide, mz_CA_mono (fun r g1 z => ?_) (fun e g1 z => ?_) k⟩
  · refine ⟨in01, ?_⟩
    rintro _ rfl
    rw [show mx_at 0 = 0 from by decide]
    exact z
  · rcases z with ⟨rfl, z⟩ | ⟨rfl, z⟩
    · exact zL_cross_15 z
    · exact zL_cross_19 z
theorem wL_fewest {T : Nat × (Nat → Int32)} {d : Nat} {Q : mz_K} {X : mz_X} {g : mz_S} {x1 x2 : Int} (k : zC T d 188 [mx_R 0, mx_I x1, mx_I x2] g (fun r g1 => Q 0 (mx_up g1 179 0 (w32 r))) (fun e g1 => (e = 1 ∧ Q 1 g1))) : zC T (d + 1) 376 [mx_R 0, mx_I x1, mx_I x2, mx_R 179] g Q X := by
  refine zL_fewest ⟨by decide, by decide, mz_CA_mono (fun r g1 z => ?_) (fun e g1 z => ?_) k⟩
  · refine ⟨in01, ?_⟩
    rintro _ rfl
    rw [show mx_at 0 = 0 from by decide]
    exact z
  · obtain ⟨rfl, z⟩ := z
    exact zL_fewest_15 z
theorem wL_step {T : Nat × (Nat → Int32)} {d : Nat} {Q : mz_K} {X : mz_X} {g : mz_S} {x1 x2 x3 x4 : Int} (k : zC T d 189 [mx_R 0, mx_I x1, mx_I x2, mx_I x3, mx_I x4] g (fun r g1 => Q 0 (mx_up g1 179 0 (w32 r))) (fun e g1 => (e = 1 ∧ Q 1 g1))) : zC T (d + 1) 377 [mx_R 0, mx_I x1, mx_I x2, mx_I x3, mx_I x4, mx_R 179] g Q X := by
  refine zL_step ⟨by decide, by decide, mz_CA_mono (fun r g1 z => ?_) (fun e g1 z => ?_) k⟩
  · refine ⟨in01, ?_⟩
    rintro _ rfl
    rw [show mx_at 0 = 0 from by decide]
    exact z
  · obtain ⟨rfl, z⟩ := z
    exact zL_step_19 z
theorem wL_entry {T : Nat × (Nat → Int32)} {d : Nat} {Q : mz_K} {X : mz_X} {g : mz_S} {x1 x2 : Int} (k : zC T d 191 [mx_R 0, mx_I x1, mx_I x2] g (fun r g1 => Q 0 (mx_up g1 179 0 (w32 r))) (fun e g1 => (e = 0 ∧ Q 1 g1) ∨ (e = 1 ∧ Q 2 g1))) : zC T (d + 1) 378 [mx_R 0, mx_I x1, mx_I x2, mx_R 179] g Q X := by
  refine zL_entry ⟨by decide, by decide, mz_CA_mono (fun r g1 z => ?_) (fun e g1 z => ?_) k⟩
  · refine ⟨in01, ?_⟩
    rintro _ rfl
    rw [show mx_at 0 = 0 from by decide]
    exact z
  · rcases z with ⟨rfl, z⟩ | ⟨rfl, z⟩
    · exact zL_entry_15 z
    · exact zL_entry_19 z
theorem wL_expect {T : Nat × (Nat → Int32)} {d : Nat} {Q : mz_K} {X : mz_X} {g : mz_S} {x1 x2 x3 x4 x5 : Int} (k : zC T d 192 [mx_R 0, mx_I x1, mx_I x2, mx_I x3, mx_I x4, mx_I x5] g (fun r g1 => Q 0 (mx_up g1 179 0 (w32 r))) (fun e g1 => (e = 0 ∧ Q 1 g1) ∨ (e = 1 ∧ Q 2 g1))) : zC T (d + 1) 379 [mx_R 0, mx_I x1, mx_I x2, mx_I x3, mx_I x4, mx_I x5, mx_R 179] g Q X := by
  refine zL_expect ⟨by decide, by decide, mz_CA_mono (fun r g1 z => ?_) (fun e g1 z => ?_) k⟩
  · refine ⟨in01, ?_⟩
    rintro _ rfl
    rw [show mx_at 0 = 0 from by decide]
    exact z
  · rcases z with ⟨rfl, z⟩ | ⟨rfl, z⟩
    · exact zL_expect_21 z
    · exact zL_expect_25 z
theorem wL_dry {T : Nat × (Nat → Int32)} {d : Nat} {Q : mz_K} {X : mz_X} {g : mz_S} {x1 x2 x3 : Int} (k : zC T d 193 [mx_R 0, mx_I x1, mx_I x2, mx_I x3] g (fun r g1 => Q 0 (mx_up g1 179 0 (w32 r))) (fun e g1 => (e = 0 ∧ Q 1 g1) ∨ (e = 1 ∧ Q 2 g1))) : zC T (d + 1) 380 [mx_R 0, mx_I x1, mx_I x2, mx_I x3, mx_R 179] g Q X := by
  refine zL_dry ⟨by decide, by decide, mz_CA_mono (fun r g1 z => ?_) (fun e g1 z => ?_) k⟩
  · refine ⟨in01, ?_⟩
    rintro _ rfl
    rw [show mx_at 0 = 0 from by decide]
    exact z
  · rcases z with ⟨rfl, z⟩ | ⟨rfl, z⟩
    · exact zL_dry_17 z
    · exact zL_dry_21 z
theorem wL_plan {T : Nat × (Nat → Int32)} {d : Nat} {Q : mz_K} {X : mz_X} {g : mz_S} {x1 x2 x4 x5 x6 : Int} (k : zC T d 194 [mx_R 0, mx_I x1, mx_J x2, mx_I x4, mx_I x5, mx_I x6] g (fun r g1 => Q 0 (mx_up g1 179 0 (w32 r))) (fun e g1 => (e = 1 ∧ Q 1 g1))) : zC T (d + 1) 381 [mx_R 0, mx_I x1, mx_J x2, mx_I x4, mx_I x5, mx_I x6, mx_R 179] g Q X := by
  refine zL_plan ⟨by decide, by decide, mz_CA_mono (fun r g1 z => ?_) (fun e g1 z => ?_) k⟩
  · refine ⟨in01, ?_⟩
    rintro _ rfl
    rw [show mx_at 0 = 0 from by decide]
    exact z
  · obtain ⟨rfl, z⟩ := z
    exact zL_plan_22 z
theorem wL_falls {T : Nat × (Nat → Int32)} {d : Nat} {Q : mz_K} {X : mz_X} {g : mz_S} {x1 : Int} (k : zC T d 195 [mx_R 0, mx_I x1] g (fun r g1 => Q 0 (mx_up g1 179 0 r)) (fun e g1 => (e = 0 ∧ Q 1 g1) ∨ (e = 2 ∧ Q 2 g1))) : zC T (d + 1) 382 [mx_R 0, mx_I x1, mx_R 179] g Q X := by
  refine zL_falls ⟨by decide, by decide, mz_CA_mono (fun r g1 z => ?_) (fun e g1 z => ?_) k⟩
  · refine ⟨in01, ?_⟩
    rintro _ rfl
    rw [show mx_at 0 = 0 from by decide]
    exact z
  · rcases z with ⟨rfl, z⟩ | ⟨rfl, z⟩
    · exact zL_falls_12 z
    · exact zL_falls_15 z
theorem wL_fell {T : Nat × (Nat → Int32)} {d : Nat} {Q : mz_K} {X : mz_X} {g : mz_S} {x1 : Int} (k : zC T d 196 [mx_R 0, mx_I x1] g (fun r g1 => Q 0 (mx_up g1 179 0 (w32 r))) (fun e g1 => (e = 0 ∧ Q 1 g1))) : zC T (d + 1) 383 [mx_R 0, mx_I x1, mx_R 179] g Q X := by
  refine zL_fell ⟨by decide, by decide, mz_CA_mono (fun r g1 z => ?_) (fun e g1 z => ?_) k⟩
  · refine ⟨in01, ?_⟩
    rintro _ rfl
    rw [show mx_at 0 = 0 from by decide]
    exact z
  · obtain ⟨rfl, z⟩ := z
    exact zL_fell_13 z
theorem wL_ruin {T : Nat × (Nat → Int32)} {d : Nat} {Q : mz_K} {X : mz_X} {g : mz_S} {x1 x2 : Int} (k : zC T d 197 [mx_R 0, mx_I x1, mx_I x2] g (fun r g1 => Q 0 (mx_up g1 179 0 (w32 r))) (fun e g1 => (e = 0 ∧ Q 1 g1) ∨ (e = 1 ∧ Q 2 g1))) : zC T (d + 1) 384 [mx_R 0, mx_I x1, mx_I x2, mx_R 179] g Q X := by
  refine zL_ruin ⟨by decide, by decide, mz_CA_mono (fun r g1 z => ?_) (fun e g1 z => ?_) k⟩
  · refine ⟨in01, ?_⟩
    rintro _ rfl
    rw [show mx_at 0 = 0 from by decide]
    exact z
  · rcases z with ⟨rfl, z⟩ | ⟨rfl, z⟩
    · exact zL_ruin_15 z
    · exact zL_ruin_19 z
theorem wL_wealth {T : Nat × (Nat → Int32)} {d : Nat} {Q : mz_K} {X : mz_X} {g : mz_S} {x1 : Int} (k : zC T d 198 [mx_R 0, mx_I x1] g (fun r g1 => Q 0 (mx_up g1 179 0 r)) (fun e g1 => (e = 0 ∧ Q 1 g1))) : zC T (d + 1) 385 [mx_R 0, mx_I x1, mx_R 179] g Q X := by
  refine zL_wealth ⟨by decide, by decide, mz_CA_mono (fun r g1 z => ?_) (fun e g1 z => ?_) k⟩
  · refine ⟨in01, ?_⟩
    rintro _ rfl
    rw [show mx_at 0 = 0 from by decide]
    exact z
  · obtain ⟨rfl, z⟩ := z
    exact zL_wealth_12 z
theorem wL_run {T : Nat × (Nat → Int32)} {d : Nat} {Q : mz_K} {X : mz_X} {g : mz_S} {x1 x2 x3 : Int} (k : zC T d 199 [mx_R 0, mx_I x1, mx_I x2, mx_I x3] g (fun r g1 => Q 0 (mx_up g1 179 0 (w32 r))) (fun e g1 => (e = 0 ∧ Q 1 g1) ∨ (e = 1 ∧ Q 2 g1))) : zC T (d + 1) 386 [mx_R 0, mx_I x1, mx_I x2, mx_I x3, mx_R 179] g Q X := by
  refine zL_run ⟨by decide, by decide, mz_CA_mono (fun r g1 z => ?_) (fun e g1 z => ?_) k⟩
  · refine ⟨in01, ?_⟩
    rintro _ rfl
    rw [show mx_at 0 = 0 from by decide]
    exact z
  · rcases z with ⟨rfl, z⟩ | ⟨rfl, z⟩
    · exact zL_run_17 z
    · exact zL_run_21 z
theorem wL_tray {T : Nat × (Nat → Int32)} {d : Nat} {Q : mz_K} {X : mz_X} {g : mz_S} {x1 x2 x3 : Int} (k : zC T d 200 [mx_R 0, mx_I x1, mx_I x2, mx_I x3] g (fun r g1 => Q 0 g1) (fun e g1 => (e = 0 ∧ Q 1 g1) ∨ (e = 1 ∧ Q 2 g1))) : zC T (d + 1) 387 [mx_R 0, mx_I x1, mx_I x2, mx_I x3] g Q X := by
  refine zL_tray ⟨by decide, by decide, mz_CA_mono (fun r g1 z => ?_) (fun e g1 z => ?_) k⟩
  · exact z
  · rcases z with ⟨rfl, z⟩ | ⟨rfl, z⟩
    · exact zL_tray_12 z
    · exact zL_tray_16 z
theorem wL_write {T : Nat × (Nat → Int32)} {d : Nat} {Q : mz_K} {X : mz_X} {g : mz_S} {x1 x2 x3 : Int} (k : zC T d 201 [mx_R 0, mx_I x1, mx_I x2, mx_J x3] g (fun r g1 => Q 0 (mx_up g1 179 0 r)) (fun e g1 => (e = 0 ∧ Q 1 g1) ∨ (e = 2 ∧ Q 2 g1) ∨ (e = 3 ∧ Q 3 g1))) : zC T (d + 1) 388 [mx_R 0, mx_I x1, mx_I x2, mx_J x3, mx_R 179] g Q X := by
  refine zL_write ⟨by decide, by decide, mz_CA_mono (fun r g1 z => ?_) (fun e g1 z => ?_) k⟩
  · refine ⟨in01, ?_⟩
    rintro _ rfl
    rw [show mx_at 0 = 0 from by decide]
    exact z
  · rcases z with ⟨rfl, z⟩ | ⟨rfl, z⟩ | ⟨rfl, z⟩
    · exact zL_write_16 z
    · exact zL_write_20 z
    · exact zL_write_24 z
theorem wL_read {T : Nat × (Nat → Int32)} {d : Nat} {Q : mz_K} {X : mz_X} {g : mz_S} {x1 x2 : Int} (k : zC T d 202 [mx_R 0, mx_I x1, mx_I x2] g (fun r g1 => Q 0 (mx_up g1 179 0 r)) (fun e g1 => (e = 0 ∧ Q 1 g1) ∨ (e = 2 ∧ Q 2 g1) ∨ (e = 3 ∧ Q 3 g1))) : zC T (d + 1) 389 [mx_R 0, mx_I x1, mx_I x2, mx_R 179] g Q X := by
  refine zL_read ⟨by decide, by decide, mz_CA_mono (fun r g1 z => ?_) (fun e g1 z => ?_) k⟩
  · refine ⟨in01, ?_⟩
    rintro _ rfl
    rw [show mx_at 0 = 0 from by decide]
    exact z
  · rcases z with ⟨rfl, z⟩ | ⟨rfl, z⟩ | ⟨rfl, z⟩
    · exact zL_read_14 z
    · exact zL_read_18 z
    · exact zL_read_22 z
theorem wL_pour {T : Nat × (Nat → Int32)} {d : Nat} {Q : mz_K} {X : mz_X} {g : mz_S} {x1 x2 x3 x4 x5 : Int} (k : zC T d 203 [mx_R 0, mx_I x1, mx_I x2, mx_I x3, mx_I x4, mx_I x5] g (fun r g1 => Q 0 g1) (fun e g1 => (e = 0 ∧ Q 1 g1) ∨ (e = 2 ∧ Q 2 g1) ∨ (e = 3 ∧ Q 3 g1))) : zC T (d + 1) 390 [mx_R 0, mx_I x1, mx_I x2, mx_I x3, mx_I x4, mx_I x5] g Q X := by
  refine zL_pour ⟨by decide, by decide, mz_CA_mono (fun r g1 z => ?_) (fun e g1 z => ?_) k⟩
  · exact z
  · rcases z with ⟨rfl, z⟩ | ⟨rfl, z⟩ | ⟨rfl, z⟩
    · exact zL_pour_16 z
    · exact zL_pour_20 z
    · exact zL_pour_24 z
theorem wL_book {T : Nat × (Nat → Int32)} {d : Nat} {Q : mz_K} {X : mz_X} {g : mz_S} {x1 x2 : Int} (k : zC T d 204 [mx_R 0, mx_I x1, mx_I x2] g (fun r g1 => Q 0 (mx_up g1 179 0 (w32 r))) (fun e g1 => (e = 0 ∧ Q 1 g1))) : zC T (d + 1) 391 [mx_R 0, mx_I x1, mx_I x2, mx_R 179] g Q X := by
  refine zL_book ⟨by decide, by decide, mz_CA_mono (fun r g1 z => ?_) (fun e g1 z => ?_) k⟩
  · refine ⟨in01, ?_⟩
    rintro _ rfl
    rw [show mx_at 0 = 0 from by decide]
    exact z
  · obtain ⟨rfl, z⟩ := z
    exact zL_book_15 z
