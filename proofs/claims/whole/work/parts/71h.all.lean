/-! each call keeps InvA -/
theorem W_go {T : Nat × (Nat → Int32)} {d : Nat} {X : mz_X} {g : mz_S} {W : Int} {x : Int} (hI : InvA W g) (hW : 0 ≤ W ∧ W ≤ 1000000000) (hx : R32 x) : zC T (d + 220) 351 [mx_R 0, mx_I x, mx_R 179] g (fun kk g1 => zC T (d + 220) 211 [mx_R 99, mx_I x] g1 (fun b g2 => AnsI kk b g2 ∧ InvA (W + 1728) g2) X) X := by
  rcases hI with h | h
  · exact zM (V_go h hW hx) (fun _ g1 z => zM z (fun _ g2 q => ⟨q.1, Or.inl q.2⟩))
  · exact O_go h hW hx
theorem W_town {T : Nat × (Nat → Int32)} {d : Nat} {X : mz_X} {g : mz_S} {W : Int} (hI : InvA W g) (hW : 0 ≤ W ∧ W ≤ 1000000000)  : zC T (d + 220) 161 [mx_R 0] g (fun r g1 => zC T (d + 220) 213 [mx_R 99] g1 (fun b g2 => r = b ∧ InvA (W + 1728) g2) X) X := by
  rcases hI with h | h
  · exact zM (V_town h hW ) (fun _ g1 z => zM z (fun _ g2 q => ⟨q.1, Or.inl q.2⟩))
  · exact O_town h hW 
theorem W_road {T : Nat × (Nat → Int32)} {d : Nat} {X : mz_X} {g : mz_S} {W : Int} {a b v : Int} (hI : InvA W g) (hW : 0 ≤ W ∧ W ≤ 1000000000) (ha : R32 a) (hb : R32 b) (hv : R32 v) : zC T (d + 220) 352 [mx_R 0, mx_I a, mx_I b, mx_I v, mx_R 179] g (fun kk g1 => zC T (d + 220) 215 [mx_R 99, mx_I a, mx_I b, mx_I v] g1 (fun r g2 => AnsI kk r g2 ∧ InvA (W + 1728) g2) X) X := by
  rcases hI with h | h
  · exact zM (V_road h hW ha hb hv) (fun _ g1 z => zM z (fun _ g2 q => ⟨q.1, Or.inl q.2⟩))
  · exact O_road h hW ha hb hv
theorem W_lag {T : Nat × (Nat → Int32)} {d : Nat} {X : mz_X} {g : mz_S} {W : Int} {a b : Int} (hI : InvA W g) (hW : 0 ≤ W ∧ W ≤ 1000000000) (ha : R32 a) (hb : R32 b) : zC T (d + 220) 353 [mx_R 0, mx_I a, mx_I b, mx_R 179] g (fun kk g1 => zC T (d + 220) 217 [mx_R 99, mx_I a, mx_I b] g1 (fun r g2 => AnsI kk r g2 ∧ InvA (W + 1728) g2) X) X := by
  rcases hI with h | h
  · exact zM (V_lag h hW ha hb) (fun _ g1 z => zM z (fun _ g2 q => ⟨q.1, Or.inl q.2⟩))
  · exact O_lag h hW ha hb
theorem W_rate {T : Nat × (Nat → Int32)} {d : Nat} {X : mz_X} {g : mz_S} {W : Int} {t co v : Int} (hI : InvA W g) (hW : 0 ≤ W ∧ W ≤ 1000000000) (ht : R32 t) (hc : R32 co) (hv : R32 v) : zC T (d + 220) 354 [mx_R 0, mx_I t, mx_I co, mx_I v, mx_R 179] g (fun kk g1 => zC T (d + 220) 221 [mx_R 99, mx_I t, mx_I co, mx_I v] g1 (fun r g2 => AnsI kk r g2 ∧ InvA (W + 1728) g2) X) X := by
  rcases hI with h | h
  · exact zM (V_rate h hW ht hc hv) (fun _ g1 z => zM z (fun _ g2 q => ⟨q.1, Or.inl q.2⟩))
  · exact O_rate h hW ht hc hv
theorem W_rateAt {T : Nat × (Nat → Int32)} {d : Nat} {X : mz_X} {g : mz_S} {W : Int} {t co dy : Int} (hI : InvA W g) (hW : 0 ≤ W ∧ W ≤ 1000000000) (ht : R32 t) (hc : R32 co) (hd : R32 dy) : zC T (d + 220) 355 [mx_R 0, mx_I t, mx_I co, mx_I dy, mx_R 179] g (fun kk g1 => zC T (d + 220) 223 [mx_R 99, mx_I t, mx_I co, mx_I dy] g1 (fun r g2 => AnsI kk r g2 ∧ InvA (W + 1728) g2) X) X := by
  rcases hI with h | h
  · exact zM (V_rateAt h hW ht hc hd) (fun _ g1 z => zM z (fun _ g2 q => ⟨q.1, Or.inl q.2⟩))
  · exact O_rateAt h hW ht hc hd
theorem W_broker {T : Nat × (Nat → Int32)} {d : Nat} {X : mz_X} {g : mz_S} {W : Int} {t kn : Int} (hI : InvA W g) (hW : 0 ≤ W ∧ W ≤ 1000000000) (ht : R32 t) (hk : R32 kn) : zC T (d + 220) 356 [mx_R 0, mx_I t, mx_I kn, mx_R 179] g (fun kk g1 => zC T (d + 220) 225 [mx_R 99, mx_I t, mx_I kn] g1 (fun r g2 => AnsI kk r g2 ∧ InvA (W + 1728) g2) X) X := by
  rcases hI with h | h
  · exact zM (V_broker h hW ht hk) (fun _ g1 z => zM z (fun _ g2 q => ⟨q.1, Or.inl q.2⟩))
  · exact O_broker h hW ht hk
theorem W_put {T : Nat × (Nat → Int32)} {d : Nat} {X : mz_X} {g : mz_S} {W : Int} {b co n : Int} (hI : InvA W g) (hW : 0 ≤ W ∧ W ≤ 1000000000) (hb : R32 b) (hc : R32 co) (hn : R32 n) : zC T (d + 220) 357 [mx_R 0, mx_I b, mx_I co, mx_I n, mx_R 179] g (fun kk g1 => zC T (d + 220) 229 [mx_R 99, mx_I b, mx_I co, mx_I n] g1 (fun r g2 => AnsI kk r g2 ∧ InvA (W + 1728) g2) X) X := by
  rcases hI with h | h
  · exact zM (V_put h hW hb hc hn) (fun _ g1 z => zM z (fun _ g2 q => ⟨q.1, Or.inl q.2⟩))
  · exact O_put h hW hb hc hn
theorem W_drawer {T : Nat × (Nat → Int32)} {d : Nat} {X : mz_X} {g : mz_S} {W : Int} {b co : Int} (hI : InvA W g) (hW : 0 ≤ W ∧ W ≤ 1000000000) (hb : R32 b) (hc : R32 co) : zC T (d + 220) 358 [mx_R 0, mx_I b, mx_I co, mx_R 179] g (fun kk g1 => zC T (d + 220) 230 [mx_R 99, mx_I b, mx_I co] g1 (fun r g2 => AnsI kk r g2 ∧ InvA (W + 1728) g2) X) X := by
  rcases hI with h | h
  · exact zM (V_drawer h hW hb hc) (fun _ g1 z => zM z (fun _ g2 q => ⟨q.1, Or.inl q.2⟩))
  · exact O_drawer h hW hb hc
theorem W_feed {T : Nat × (Nat → Int32)} {d : Nat} {X : mz_X} {g : mz_S} {W : Int} {a b c e f : Int} (hI : InvA W g) (hW : 0 ≤ W ∧ W ≤ 1000000000)  : zC T (d + 220) 169 [mx_R 0, mx_I a, mx_I b, mx_I c, mx_I e, mx_I f] g (fun r g1 => zC T (d + 220) 240 [mx_R 99, mx_I a, mx_I b, mx_I c, mx_I e, mx_I f] g1 (fun b g2 => r = b ∧ InvA (W + 1728) g2) X) X := by
  rcases hI with h | h
  · exact zM (V_feed h hW ) (fun _ g1 z => zM z (fun _ g2 q => ⟨q.1, Or.inl q.2⟩))
  · exact O_feed h hW 
theorem W_text {T : Nat × (Nat → Int32)} {d : Nat} {X : mz_X} {g : mz_S} {W : Int} {n towns day : Int} (hI : InvA W g) (hW : 0 ≤ W ∧ W ≤ 1000000000) (hn : R32 n) (ht : R32 towns) (hd : R32 day) : zC T (d + 220) 359 [mx_R 0, mx_I n, mx_I towns, mx_I day, mx_R 179] g (fun kk g1 => zC T (d + 220) 264 [mx_R 99, mx_I n, mx_I towns, mx_I day] g1 (fun r g2 => AnsI kk r g2 ∧ InvA (W + 1728) g2) X) X := by
  rcases hI with h | h
  · exact zM (V_text h hW hn ht hd) (fun _ g1 z => zM z (fun _ g2 q => ⟨q.1, Or.inl q.2⟩))
  · exact O_text h hW hn ht hd
theorem W_fault {T : Nat × (Nat → Int32)} {d : Nat} {X : mz_X} {g : mz_S} {W : Int} {x : Int} (hI : InvA W g) (hW : 0 ≤ W ∧ W ≤ 1000000000) (hx : R32 x) : zC T (d + 220) 171 [mx_R 0, mx_I x] g (fun r g1 => zC T (d + 220) 265 [mx_R 99, mx_I x] g1 (fun b g2 => r = b ∧ InvA (W + 1728) g2) X) X := by
  rcases hI with h | h
  · exact zM (V_fault h hW hx) (fun _ g1 z => zM z (fun _ g2 q => ⟨q.1, Or.inl q.2⟩))
  · exact O_fault h hW hx
theorem W_lines {T : Nat × (Nat → Int32)} {d : Nat} {X : mz_X} {g : mz_S} {W : Int} {a day what : Int} (hI : InvA W g) (hW : 0 ≤ W ∧ W ≤ 1000000000) (ha : R32 a) (hd : R32 day) (hx : R32 what) : zC T (d + 220) 360 [mx_R 0, mx_I a, mx_I day, mx_I what, mx_R 179] g (fun kk g1 => zC T (d + 220) 268 [mx_R 99, mx_I a, mx_I day, mx_I what] g1 (fun r g2 => AnsI kk r g2 ∧ InvA (W + 1728) g2) X) X := by
  rcases hI with h | h
  · exact zM (V_lines h hW ha hd hx) (fun _ g1 z => zM z (fun _ g2 q => ⟨q.1, Or.inl q.2⟩))
  · exact O_lines h hW ha hd hx
theorem W_said {T : Nat × (Nat → Int32)} {d : Nat} {X : mz_X} {g : mz_S} {W : Int} {a b n coin what : Int} (hI : InvA W g) (hW : 0 ≤ W ∧ W ≤ 1000000000) (ha : R32 a) (hb : R32 b) (hc : R32 coin) (hx : R32 what) : zC T (d + 220) 361 [mx_R 0, mx_I a, mx_I b, mx_J n, mx_I coin, mx_I what, mx_R 179] g (fun kk g1 => zC T (d + 220) 273 [mx_R 99, mx_I a, mx_I b, mx_J n, mx_I coin, mx_I what] g1 (fun r g2 => AnsI kk r g2 ∧ InvA (W + 1728) g2) X) X := by
  rcases hI with h | h
  · exact zM (V_said h hW ha hb hc hx) (fun _ g1 z => zM z (fun _ g2 q => ⟨q.1, Or.inl q.2⟩))
  · exact O_said h hW ha hb hc hx
theorem W_tell {T : Nat × (Nat → Int32)} {d : Nat} {X : mz_X} {g : mz_S} {W : Int} {a b co n s : Int} (hI : InvA W g) (hW : 0 ≤ W ∧ W ≤ 1000000000) (ha : R32 a) (hb : R32 b) (hc : R32 co) (hn : R32 n) (hs : R32 s) : zC T (d + 220) 362 [mx_R 0, mx_I a, mx_I b, mx_I co, mx_I n, mx_I s, mx_R 179] g (fun kk g1 => zC T (d + 220) 275 [mx_R 99, mx_I a, mx_I b, mx_I co, mx_I n, mx_I s] g1 (fun r g2 => AnsI kk r g2 ∧ InvA (W + 1728) g2) X) X := by
  rcases hI with h | h
  · exact zM (V_tell h hW ha hb hc hn hs) (fun _ g1 z => zM z (fun _ g2 q => ⟨q.1, Or.inl q.2⟩))
  · exact O_tell h hW ha hb hc hn hs
theorem W_pay {T : Nat × (Nat → Int32)} {d : Nat} {X : mz_X} {g : mz_S} {W : Int} {x s : Int} (hI : InvA W g) (hW : 0 ≤ W ∧ W ≤ 1000000000) (hx : R32 x) (hs : R32 s) : zC T (d + 220) 363 [mx_R 0, mx_I x, mx_I s, mx_R 179] g (fun kk g1 => zC T (d + 220) 280 [mx_R 99, mx_I x, mx_I s] g1 (fun r g2 => AnsI kk r g2 ∧ InvA (W + 1728) g2) X) X := by
  rcases hI with h | h
  · exact zM (V_pay h hW hx hs) (fun _ g1 z => zM z (fun _ g2 q => ⟨q.1, Or.inl q.2⟩))
  · exact O_pay h hW hx hs
theorem W_back {T : Nat × (Nat → Int32)} {d : Nat} {X : mz_X} {g : mz_S} {W : Int} {x : Int} (hI : InvA W g) (hW : 0 ≤ W ∧ W ≤ 1000000000) (hx : R32 x) : zC T (d + 220) 364 [mx_R 0, mx_I x, mx_R 179] g (fun kk g1 => zC T (d + 220) 281 [mx_R 99, mx_I x] g1 (fun r g2 => AnsI kk r g2 ∧ InvA (W + 1728) g2) X) X := by
  rcases hI with h | h
  · exact zM (V_back h hW hx) (fun _ g1 z => zM z (fun _ g2 q => ⟨q.1, Or.inl q.2⟩))
  · exact O_back h hW hx
theorem W_twin {T : Nat × (Nat → Int32)} {d : Nat} {X : mz_X} {g : mz_S} {W : Int} {x b : Int} (hI : InvA W g) (hW : 0 ≤ W ∧ W ≤ 1000000000) (hx : R32 x) (hb : R32 b) : zC T (d + 220) 365 [mx_R 0, mx_I x, mx_I b, mx_R 179] g (fun kk g1 => zC T (d + 220) 282 [mx_R 99, mx_I x, mx_I b] g1 (fun r g2 => AnsI kk r g2 ∧ InvA (W + 1728) g2) X) X := by
  rcases hI with h | h
  · exact zM (V_twin h hW hx hb) (fun _ g1 z => zM z (fun _ g2 q => ⟨q.1, Or.inl q.2⟩))
  · exact O_twin h hW hx hb
theorem W_word {T : Nat × (Nat → Int32)} {d : Nat} {X : mz_X} {g : mz_S} {W : Int} {x wh : Int} (hI : InvA W g) (hW : 0 ≤ W ∧ W ≤ 1000000000) (hx : R32 x) (hw : R32 wh) : zC T (d + 220) 366 [mx_R 0, mx_I x, mx_I wh, mx_R 179] g (fun kk g1 => zC T (d + 220) 284 [mx_R 99, mx_I x, mx_I wh] g1 (fun r g2 => AnsI kk r g2 ∧ InvA (W + 1728) g2) X) X := by
  rcases hI with h | h
  · exact zM (V_word h hW hx hw) (fun _ g1 z => zM z (fun _ g2 q => ⟨q.1, Or.inl q.2⟩))
  · exact O_word h hW hx hw
theorem W_owes {T : Nat × (Nat → Int32)} {d : Nat} {X : mz_X} {g : mz_S} {W : Int} {a b co : Int} (hI : InvA W g) (hW : 0 ≤ W ∧ W ≤ 1000000000) (ha : R32 a) (hb : R32 b) (hc : R32 co) : zC T (d + 220) 367 [mx_R 0, mx_I a, mx_I b, mx_I co, mx_R 179] g (fun kk g1 => zC T (d + 220) 236 [mx_R 99, mx_I a, mx_I b, mx_I co] g1 (fun r g2 => AnsI kk r g2 ∧ InvA (W + 1728) g2) X) X := by
  rcases hI with h | h
  · exact zM (V_owes h hW ha hb hc) (fun _ g1 z => zM z (fun _ g2 q => ⟨q.1, Or.inl q.2⟩))
  · exact O_owes h hW ha hb hc
theorem W_heard {T : Nat × (Nat → Int32)} {d : Nat} {X : mz_X} {g : mz_S} {W : Int} {s a b co dy : Int} (hI : InvA W g) (hW : 0 ≤ W ∧ W ≤ 1000000000) (hs : R32 s) (ha : R32 a) (hb : R32 b) (hc : R32 co) (hd : R32 dy) : zC T (d + 220) 368 [mx_R 0, mx_I s, mx_I a, mx_I b, mx_I co, mx_I dy, mx_R 179] g (fun kk g1 => zC T (d + 220) 237 [mx_R 99, mx_I s, mx_I a, mx_I b, mx_I co, mx_I dy] g1 (fun r g2 => AnsI kk r g2 ∧ InvA (W + 1728) g2) X) X := by
  rcases hI with h | h
  · exact zM (V_heard h hW hs ha hb hc hd) (fun _ g1 z => zM z (fun _ g2 q => ⟨q.1, Or.inl q.2⟩))
  · exact O_heard h hW hs ha hb hc hd
theorem W_claim {T : Nat × (Nat → Int32)} {d : Nat} {X : mz_X} {g : mz_S} {W : Int} {a b : Int} (hI : InvA W g) (hW : 0 ≤ W ∧ W ≤ 1000000000) (ha : R32 a) (hb : R32 b) : zC T (d + 220) 369 [mx_R 0, mx_I a, mx_I b, mx_R 179] g (fun kk g1 => zC T (d + 220) 238 [mx_R 99, mx_I a, mx_I b] g1 (fun r g2 => AnsL kk r g2 ∧ InvA (W + 1728) g2) X) X := by
  rcases hI with h | h
  · exact zM (V_claim h hW ha hb) (fun _ g1 z => zM z (fun _ g2 q => ⟨q.1, Or.inl q.2⟩))
  · exact O_claim h hW ha hb
theorem W_settle {T : Nat × (Nat → Int32)} {d : Nat} {X : mz_X} {g : mz_S} {W : Int} {a b co n : Int} (hI : InvA W g) (hW : 0 ≤ W ∧ W ≤ 1000000000) (ha : R32 a) (hb : R32 b) (hc : R32 co) (hn : R32 n) : zC T (d + 220) 370 [mx_R 0, mx_I a, mx_I b, mx_I co, mx_I n, mx_R 179] g (fun kk g1 => zC T (d + 220) 285 [mx_R 99, mx_I a, mx_I b, mx_I co, mx_I n] g1 (fun r g2 => AnsI kk r g2 ∧ InvA (W + 1728) g2) X) X := by
  rcases hI with h | h
  · exact zM (V_settle h hW ha hb hc hn) (fun _ g1 z => zM z (fun _ g2 q => ⟨q.1, Or.inl q.2⟩))
  · exact O_settle h hW ha hb hc hn
theorem W_market {T : Nat × (Nat → Int32)} {d : Nat} {X : mz_X} {g : mz_S} {W : Int} {t kd p : Int} (hI : InvA W g) (hW : 0 ≤ W ∧ W ≤ 1000000000) (ht : R32 t) (hk : R32 kd) (hp : R32 p) : zC T (d + 220) 371 [mx_R 0, mx_I t, mx_I kd, mx_I p, mx_R 179] g (fun kk g1 => zC T (d + 220) 286 [mx_R 99, mx_I t, mx_I kd, mx_I p] g1 (fun r g2 => AnsI kk r g2 ∧ InvA (W + 1728) g2) X) X := by
  rcases hI with h | h
  · exact zM (V_market h hW ht hk hp) (fun _ g1 z => zM z (fun _ g2 q => ⟨q.1, Or.inl q.2⟩))
  · exact O_market h hW ht hk hp
theorem W_goods {T : Nat × (Nat → Int32)} {d : Nat} {X : mz_X} {g : mz_S} {W : Int} {a b co kd n p : Int} (hI : InvA W g) (hW : 0 ≤ W ∧ W ≤ 1000000000) (ha : R32 a) (hb : R32 b) (hc : R32 co) (hk : R32 kd) (hn : R32 n) (hp : R32 p) : zC T (d + 220) 372 [mx_R 0, mx_I a, mx_I b, mx_I co, mx_I kd, mx_I n, mx_I p, mx_R 179] g (fun kk g1 => zC T (d + 220) 287 [mx_R 99, mx_I a, mx_I b, mx_I co, mx_I kd, mx_I n, mx_I p] g1 (fun r g2 => AnsI kk r g2 ∧ InvA (W + 1728) g2) X) X := by
  rcases hI with h | h
  · exact zM (V_goods h hW ha hb hc hk hn hp) (fun _ g1 z => zM z (fun _ g2 q => ⟨q.1, Or.inl q.2⟩))
  · exact O_goods h hW ha hb hc hk hn hp
theorem W_hidden {T : Nat × (Nat → Int32)} {d : Nat} {X : mz_X} {g : mz_S} {W : Int} {a b : Int} (hI : InvA W g) (hW : 0 ≤ W ∧ W ≤ 1000000000) (ha : R32 a) (hb : R32 b) : zC T (d + 220) 373 [mx_R 0, mx_I a, mx_I b, mx_R 179] g (fun kk g1 => zC T (d + 220) 288 [mx_R 99, mx_I a, mx_I b] g1 (fun r g2 => AnsL kk r g2 ∧ InvA (W + 1728) g2) X) X := by
  rcases hI with h | h
  · exact zM (V_hidden h hW ha hb) (fun _ g1 z => zM z (fun _ g2 q => ⟨q.1, Or.inl q.2⟩))
  · exact O_hidden h hW ha hb
theorem W_ring {T : Nat × (Nat → Int32)} {d : Nat} {X : mz_X} {g : mz_S} {W : Int} {co mo x : Int} (hI : InvA W g) (hW : 0 ≤ W ∧ W ≤ 1000000000) (hc : R32 co) (hm : R32 mo) (hx : R32 x) : zC T (d + 220) 374 [mx_R 0, mx_I co, mx_I mo, mx_I x, mx_R 179] g (fun kk g1 => zC T (d + 220) 292 [mx_R 99, mx_I co, mx_I mo, mx_I x] g1 (fun r g2 => AnsI kk r g2 ∧ InvA (W + 1728) g2) X) X := by
  rcases hI with h | h
  · exact zM (V_ring h hW hc hm hx) (fun _ g1 z => zM z (fun _ g2 q => ⟨q.1, Or.inl q.2⟩))
  · exact O_ring h hW hc hm hx
theorem W_cross {T : Nat × (Nat → Int32)} {d : Nat} {X : mz_X} {g : mz_S} {W : Int} {co mo : Int} (hI : InvA W g) (hW : 0 ≤ W ∧ W ≤ 1000000000) (hc : R32 co) (hm : R32 mo) : zC T (d + 220) 375 [mx_R 0, mx_I co, mx_I mo, mx_R 179] g (fun kk g1 => zC T (d + 220) 293 [mx_R 99, mx_I co, mx_I mo] g1 (fun r g2 => AnsI kk r g2 ∧ InvA (W + 1728) g2) X) X := by
  rcases hI with h | h
  · exact zM (V_cross h hW hc hm) (fun _ g1 z => zM z (fun _ g2 q => ⟨q.1, Or.inl q.2⟩))
  · exact O_cross h hW hc hm
theorem W_fewest {T : Nat × (Nat → Int32)} {d : Nat} {X : mz_X} {g : mz_S} {W : Int} {co st : Int} (hI : InvA W g) (hW : 0 ≤ W ∧ W ≤ 1000000000) (hc : R32 co) (hs : R32 st) : zC T (d + 220) 376 [mx_R 0, mx_I co, mx_I st, mx_R 179] g (fun kk g1 => zC T (d + 220) 301 [mx_R 99, mx_I co, mx_I st] g1 (fun r g2 => AnsI kk r g2 ∧ InvA (W + 1728) g2) X) X := by
  rcases hI with h | h
  · exact zM (V_fewest h hW hc hs) (fun _ g1 z => zM z (fun _ g2 q => ⟨q.1, Or.inl q.2⟩))
  · exact O_fewest h hW hc hs
theorem W_step {T : Nat × (Nat → Int32)} {d : Nat} {X : mz_X} {g : mz_S} {W : Int} {co st x w : Int} (hI : InvA W g) (hW : 0 ≤ W ∧ W ≤ 1000000000) (hc : R32 co) (hs : R32 st) (hx : R32 x) (hwh : R32 w) : zC T (d + 220) 377 [mx_R 0, mx_I co, mx_I st, mx_I x, mx_I w, mx_R 179] g (fun kk g1 => zC T (d + 220) 302 [mx_R 99, mx_I co, mx_I st, mx_I x, mx_I w] g1 (fun r g2 => AnsI kk r g2 ∧ InvA (W + 1728) g2) X) X := by
  rcases hI with h | h
  · exact zM (V_step h hW hc hs hx hwh) (fun _ g1 z => zM z (fun _ g2 q => ⟨q.1, Or.inl q.2⟩))
  · exact O_step h hW hc hs hx hwh
theorem W_entry {T : Nat × (Nat → Int32)} {d : Nat} {X : mz_X} {g : mz_S} {W : Int} {e wh : Int} (hI : InvA W g) (hW : 0 ≤ W ∧ W ≤ 1000000000) (he : R32 e) (hw : R32 wh) : zC T (d + 220) 378 [mx_R 0, mx_I e, mx_I wh, mx_R 179] g (fun kk g1 => zC T (d + 220) 239 [mx_R 99, mx_I e, mx_I wh] g1 (fun r g2 => AnsI kk r g2 ∧ InvA (W + 1728) g2) X) X := by
  rcases hI with h | h
  · exact zM (V_entry h hW he hw) (fun _ g1 z => zM z (fun _ g2 q => ⟨q.1, Or.inl q.2⟩))
  · exact O_entry h hW he hw
theorem W_expect {T : Nat × (Nat → Int32)} {d : Nat} {X : mz_X} {g : mz_S} {W : Int} {b co dy lo hi : Int} (hI : InvA W g) (hW : 0 ≤ W ∧ W ≤ 1000000000) (hb : R32 b) (hc : R32 co) (hd : R32 dy) (hl : R32 lo) (hh : R32 hi) : zC T (d + 220) 379 [mx_R 0, mx_I b, mx_I co, mx_I dy, mx_I lo, mx_I hi, mx_R 179] g (fun kk g1 => zC T (d + 220) 303 [mx_R 99, mx_I b, mx_I co, mx_I dy, mx_I lo, mx_I hi] g1 (fun r g2 => AnsI kk r g2 ∧ InvA (W + 1728) g2) X) X := by
  rcases hI with h | h
  · exact zM (V_expect h hW hb hc hd hl hh) (fun _ g1 z => zM z (fun _ g2 q => ⟨q.1, Or.inl q.2⟩))
  · exact O_expect h hW hb hc hd hl hh
theorem W_dry {T : Nat × (Nat → Int32)} {d : Nat} {X : mz_X} {g : mz_S} {W : Int} {b co x3 : Int} (hI : InvA W g) (hW : 0 ≤ W ∧ W ≤ 1000000000) (hb : R32 b) (hc : R32 co) : zC T (d + 220) 380 [mx_R 0, mx_I b, mx_I co, mx_I x3, mx_R 179] g (fun kk g1 => zC T (d + 220) 306 [mx_R 99, mx_I b, mx_I co, mx_I x3] g1 (fun r g2 => AnsI kk r g2 ∧ InvA (W + 1728) g2) X) X := by
  rcases hI with h | h
  · exact zM (V_dry h hW hb hc) (fun _ g1 z => zM z (fun _ g2 q => ⟨q.1, Or.inl q.2⟩))
  · exact O_dry h hW hb hc
theorem W_plan {T : Nat × (Nat → Int32)} {d : Nat} {X : mz_X} {g : mz_S} {W : Int} {co x n wks x6 : Int} (hI : InvA W g) (hW : 0 ≤ W ∧ W ≤ 1000000000) (hc : R32 co) (hn : R32 n) (hw : R32 wks) (h6 : R32 x6) : zC T (d + 220) 381 [mx_R 0, mx_I co, mx_J x, mx_I n, mx_I wks, mx_I x6, mx_R 179] g (fun kk g1 => zC T (d + 220) 308 [mx_R 99, mx_I co, mx_J x, mx_I n, mx_I wks, mx_I x6] g1 (fun r g2 => AnsI kk r g2 ∧ InvA (W + 1728) g2) X) X := by
  rcases hI with h | h
  · exact zM (V_plan h hW hc hn hw h6) (fun _ g1 z => zM z (fun _ g2 q => ⟨q.1, Or.inl q.2⟩))
  · exact O_plan h hW hc hn hw h6
theorem W_falls {T : Nat × (Nat → Int32)} {d : Nat} {X : mz_X} {g : mz_S} {W : Int} {x : Int} (hI : InvA W g) (hW : 0 ≤ W ∧ W ≤ 1000000000) (hx : R32 x) : zC T (d + 220) 382 [mx_R 0, mx_I x, mx_R 179] g (fun kk g1 => zC T (d + 220) 314 [mx_R 99, mx_I x] g1 (fun r g2 => AnsL kk r g2 ∧ InvA (W + 1728) g2) X) X := by
  rcases hI with h | h
  · exact zM (V_falls h hW hx) (fun _ g1 z => zM z (fun _ g2 q => ⟨q.1, Or.inl q.2⟩))
  · exact O_falls h hW hx
theorem W_fell {T : Nat × (Nat → Int32)} {d : Nat} {X : mz_X} {g : mz_S} {W : Int} {b : Int} (hI : InvA W g) (hW : 0 ≤ W ∧ W ≤ 1000000000) (hb : R32 b) : zC T (d + 220) 383 [mx_R 0, mx_I b, mx_R 179] g (fun kk g1 => zC T (d + 220) 317 [mx_R 99, mx_I b] g1 (fun r g2 => AnsI kk r g2 ∧ InvA (W + 1728) g2) X) X := by
  rcases hI with h | h
  · exact zM (V_fell h hW hb) (fun _ g1 z => zM z (fun _ g2 q => ⟨q.1, Or.inl q.2⟩))
  · exact O_fell h hW hb
theorem W_ruin {T : Nat × (Nat → Int32)} {d : Nat} {X : mz_X} {g : mz_S} {W : Int} {x x2 : Int} (hI : InvA W g) (hW : 0 ≤ W ∧ W ≤ 1000000000) (hx : R32 x) (hx2 : R32 x2) : zC T (d + 220) 384 [mx_R 0, mx_I x, mx_I x2, mx_R 179] g (fun kk g1 => zC T (d + 220) 319 [mx_R 99, mx_I x, mx_I x2] g1 (fun r g2 => AnsI kk r g2 ∧ InvA (W + 1728) g2) X) X := by
  rcases hI with h | h
  · exact zM (V_ruin h hW hx hx2) (fun _ g1 z => zM z (fun _ g2 q => ⟨q.1, Or.inl q.2⟩))
  · exact O_ruin h hW hx hx2
theorem W_wealth {T : Nat × (Nat → Int32)} {d : Nat} {X : mz_X} {g : mz_S} {W : Int} {x : Int} (hI : InvA W g) (hW : 0 ≤ W ∧ W ≤ 1000000000) (hx : R32 x) : zC T (d + 220) 385 [mx_R 0, mx_I x, mx_R 179] g (fun kk g1 => zC T (d + 220) 320 [mx_R 99, mx_I x] g1 (fun r g2 => AnsL kk r g2 ∧ InvA (W + 1728) g2) X) X := by
  rcases hI with h | h
  · exact zM (V_wealth h hW hx) (fun _ g1 z => zM z (fun _ g2 q => ⟨q.1, Or.inl q.2⟩))
  · exact O_wealth h hW hx
theorem W_run {T : Nat × (Nat → Int32)} {d : Nat} {X : mz_X} {g : mz_S} {W : Int} {b days x : Int} (hI : InvA W g) (hW : 0 ≤ W ∧ W ≤ 1000000000) (hb : R32 b) (hd : R32 days) (hx : R32 x) : zC T (d + 220) 386 [mx_R 0, mx_I b, mx_I days, mx_I x, mx_R 179] g (fun kk g1 => zC T (d + 220) 321 [mx_R 99, mx_I b, mx_I days, mx_I x] g1 (fun r g2 => AnsI kk r g2 ∧ InvA (W + 1728) g2) X) X := by
  rcases hI with h | h
  · exact zM (V_run h hW hb hd hx) (fun _ g1 z => zM z (fun _ g2 q => ⟨q.1, Or.inl q.2⟩))
  · exact O_run h hW hb hd hx
theorem W_tray {T : Nat × (Nat → Int32)} {d : Nat} {X : mz_X} {g : mz_S} {W : Int} {t s n : Int} (hI : InvA W g) (hW : 0 ≤ W ∧ W ≤ 1000000000) (ht : R32 t) (hs : R32 s) (hn : R32 n) : zC T (d + 220) 387 [mx_R 0, mx_I t, mx_I s, mx_I n] g (fun kk g1 => zC T (d + 220) 323 [mx_R 99, mx_I t, mx_I s, mx_I n] g1 (fun _ g2 => AnsV kk g2 ∧ InvA (W + 1728) g2) X) X := by
  rcases hI with h | h
  · exact zM (V_tray h hW ht hs hn) (fun _ g1 z => zM z (fun _ g2 q => ⟨q.1, Or.inl q.2⟩))
  · exact O_tray h hW ht hs hn
theorem W_write {T : Nat × (Nat → Int32)} {d : Nat} {X : mz_X} {g : mz_S} {W : Int} {t p v : Int} (hI : InvA W g) (hW : 0 ≤ W ∧ W ≤ 1000000000) (ht : R32 t) (hp : R32 p) (hv : R64 v) : zC T (d + 220) 388 [mx_R 0, mx_I t, mx_I p, mx_J v, mx_R 179] g (fun kk g1 => zC T (d + 220) 325 [mx_R 99, mx_I t, mx_I p, mx_J v] g1 (fun r g2 => AnsL kk r g2 ∧ InvA (W + 1728) g2) X) X := by
  rcases hI with h | h
  · exact zM (V_write h hW ht hp hv) (fun _ g1 z => zM z (fun _ g2 q => ⟨q.1, Or.inl q.2⟩))
  · exact O_write h hW ht hp hv
theorem W_read {T : Nat × (Nat → Int32)} {d : Nat} {X : mz_X} {g : mz_S} {W : Int} {t p : Int} (hI : InvA W g) (hW : 0 ≤ W ∧ W ≤ 1000000000) (ht : R32 t) (hp : R32 p) : zC T (d + 220) 389 [mx_R 0, mx_I t, mx_I p, mx_R 179] g (fun kk g1 => zC T (d + 220) 326 [mx_R 99, mx_I t, mx_I p] g1 (fun r g2 => AnsL kk r g2 ∧ InvA (W + 1728) g2) X) X := by
  rcases hI with h | h
  · exact zM (V_read h hW ht hp) (fun _ g1 z => zM z (fun _ g2 q => ⟨q.1, Or.inl q.2⟩))
  · exact O_read h hW ht hp
theorem W_pour {T : Nat × (Nat → Int32)} {d : Nat} {X : mz_X} {g : mz_S} {W : Int} {f p t a n : Int} (hI : InvA W g) (hW : 0 ≤ W ∧ W ≤ 1000000000) (hf : R32 f) (hp : R32 p) (ht : R32 t) (ha : R32 a) (hn : R32 n) : zC T (d + 220) 390 [mx_R 0, mx_I f, mx_I p, mx_I t, mx_I a, mx_I n] g (fun kk g1 => zC T (d + 220) 327 [mx_R 99, mx_I f, mx_I p, mx_I t, mx_I a, mx_I n] g1 (fun _ g2 => AnsV kk g2 ∧ InvA (W + 1728) g2) X) X := by
  rcases hI with h | h
  · exact zM (V_pour h hW hf hp ht ha hn) (fun _ g1 z => zM z (fun _ g2 q => ⟨q.1, Or.inl q.2⟩))
  · exact O_pour h hW hf hp ht ha hn
theorem W_book {T : Nat × (Nat → Int32)} {d : Nat} {X : mz_X} {g : mz_S} {W : Int} {b t : Int} (hI : InvA W g) (hW : 0 ≤ W ∧ W ≤ 1000000000) (hb : R32 b) (ht : R32 t) : zC T (d + 220) 391 [mx_R 0, mx_I b, mx_I t, mx_R 179] g (fun kk g1 => zC T (d + 220) 328 [mx_R 99, mx_I b, mx_I t] g1 (fun r g2 => AnsI kk r g2 ∧ InvA (W + 1728) g2) X) X := by
  rcases hI with h | h
  · exact zM (V_book h hW hb ht) (fun _ g1 z => zM z (fun _ g2 q => ⟨q.1, Or.inl q.2⟩))
  · exact O_book h hW hb ht
theorem W_count {T : Nat × (Nat → Int32)} {d : Nat} {X : mz_X} {g : mz_S} {W : Int} {x : Int} (hI : InvA W g) (hW : 0 ≤ W ∧ W ≤ 1000000000) (hx : R32 x) : zC T (d + 220) 206 [mx_R 0, mx_I x] g (fun r g1 => zC T (d + 220) 329 [mx_R 99, mx_I x] g1 (fun b g2 => r = b ∧ InvA (W + 1728) g2) X) X := by
  rcases hI with h | h
  · exact zM (V_count h hW hx) (fun _ g1 z => zM z (fun _ g2 q => ⟨q.1, Or.inl q.2⟩))
  · exact O_count h hW hx
