section MZM
variable {F : mx_F} {sh : List mx_d} {rk : Nat → Nat} {rt : Nat} {C : mz_C} {J J' : mz_J} {Q : mz_K} {X : mz_X}
theorem mz_gom (hM : ∀ m as g (K K' : mz_K) (X X' : mz_X), (∀ n g, K n g → K' n g) → (∀ x g, X x g → X' x g) → C m as g K X → C m as g K' X') {pc : Nat} {L : mx_L} {K K' : mx_L → List mx_v → mz_S → Nat × Nat → Prop} (hK : ∀ L st g u, K L st g u → K' L st g u) (hJ : ∀ pc L st g u, J pc L st g u → J' pc L st g u) {m : Nat} {as rest : List mx_v} {g : mz_S} {u : Nat × Nat}
    (h : mz_go F rk C pc L K J X m as rest g u) : mz_go F rk C pc L K' J' X m as rest g u := by
  unfold mz_go at h ⊢
  split at h
  · next hb =>
    try simp only [hb]
    refine hM _ _ _ _ _ _ _ (fun n g z => hK _ _ _ _ z) (fun x g z => ?_) h
    unfold mz_hx at z ⊢
    split at z
    · next e9 => (try simp only [e9]); exact hJ _ _ _ _ _ z
    · next e9 => (try simp only [e9]); exact z
  · exact h.elim
set_option maxHeartbeats 4000000 in
set_option maxRecDepth 100000 in
theorem mz_monos (hM : ∀ m as g (K K' : mz_K) (X X' : mz_X), (∀ n g, K n g → K' n g) → (∀ x g, X x g → X' x g) → C m as g K X → C m as g K' X') (hJ : ∀ pc L st g u, J pc L st g u → J' pc L st g u) {pc ln : Nat} {ig : Instr} {inf : List Nat} {L : mx_L} {K K' : mx_L → List mx_v → mz_S → Nat × Nat → Prop} (hK : ∀ L st g u, K L st g u → K' L st g u) {st : List mx_v} {g : mz_S} {u : Nat × Nat}
    (hz : mz_step F sh rk rt C (pc, ig, ln, inf) L st g u K J Q X) : mz_step F sh rk rt C (pc, ig, ln, inf) L st g u K' J' Q X := by
  have go := @mz_gom F rk C J J' X hM
  cases ig
  case iconst n =>
    unfold mz_step at hz
    unfold mz_step
    dsimp only at hz ⊢
    exact hK _ _ _ _ hz
  case bipush n =>
    unfold mz_step at hz
    unfold mz_step
    dsimp only at hz ⊢
    exact hK _ _ _ _ hz
  case sipush n =>
    unfold mz_step at hz
    unfold mz_step
    dsimp only at hz ⊢
    exact hK _ _ _ _ hz
  case lconst n =>
    unfold mz_step at hz
    unfold mz_step
    dsimp only at hz ⊢
    exact hK _ _ _ _ hz
  case iload_n k =>
    unfold mz_step at hz
    unfold mz_step
    dsimp only at hz ⊢
    split at hz
    · next e9 => (try rw [e9]); exact hK _ _ _ _ hz
    · exact hz.elim
  case iload k =>
    unfold mz_step at hz
    unfold mz_step
    dsimp only at hz ⊢
    split at hz
    · next e9 => (try rw [e9]); exact hK _ _ _ _ hz
    · exact hz.elim
  case lload_n k =>
    unfold mz_step at hz
    unfold mz_step
    dsimp only at hz ⊢
    split at hz
    · next e9 => (try rw [e9]); exact hK _ _ _ _ hz
    · exact hz.elim
  case lload k =>
    unfold mz_step at hz
    unfold mz_step
    dsimp only at hz ⊢
    split at hz
    · next e9 => (try rw [e9]); exact hK _ _ _ _ hz
    · exact hz.elim
  case aload_n k =>
    unfold mz_step at hz
    unfold mz_step
    dsimp only at hz ⊢
    split at hz
    · next e9 => (try rw [e9]); exact hK _ _ _ _ hz
    · next e9 => (try rw [e9]); exact hK _ _ _ _ hz
    · exact hz.elim
  case aload k =>
    unfold mz_step at hz
    unfold mz_step
    dsimp only at hz ⊢
    split at hz
    · next e9 => (try rw [e9]); exact hK _ _ _ _ hz
    · next e9 => (try rw [e9]); exact hK _ _ _ _ hz
    · exact hz.elim
  case istore_n k =>
    unfold mz_step at hz
    unfold mz_step
    dsimp only at hz ⊢
    split at hz
    · exact hK _ _ _ _ hz
    · exact hz.elim
  case istore k =>
    unfold mz_step at hz
    unfold mz_step
    dsimp only at hz ⊢
    split at hz
    · exact hK _ _ _ _ hz
    · exact hz.elim
  case lstore_n k =>
    unfold mz_step at hz
    unfold mz_step
    dsimp only at hz ⊢
    split at hz
    · exact hK _ _ _ _ hz
    · exact hz.elim
  case lstore k =>
    unfold mz_step at hz
    unfold mz_step
    dsimp only at hz ⊢
    split at hz
    · exact hK _ _ _ _ hz
    · exact hz.elim
  case astore_n k =>
    unfold mz_step at hz
    unfold mz_step
    dsimp only at hz ⊢
    split at hz
    · exact hK _ _ _ _ hz
    · exact hz.elim
  case astore k =>
    unfold mz_step at hz
    unfold mz_step
    dsimp only at hz ⊢
    split at hz
    · exact hK _ _ _ _ hz
    · exact hz.elim
  case iinc k n =>
    unfold mz_step at hz
    unfold mz_step
    dsimp only at hz ⊢
    split at hz
    · next e9 => (try rw [e9]); exact hK _ _ _ _ hz
    · exact hz.elim
  case iadd =>
    unfold mz_step at hz
    unfold mz_step
    dsimp only at hz ⊢
    split at hz
    · exact hK _ _ _ _ hz
    · exact hz.elim
  case isub =>
    unfold mz_step at hz
    unfold mz_step
    dsimp only at hz ⊢
    split at hz
    · exact hK _ _ _ _ hz
    · exact hz.elim
  case imul =>
    unfold mz_step at hz
    unfold mz_step
    dsimp only at hz ⊢
    split at hz
    · exact hK _ _ _ _ hz
    · exact hz.elim
  case ineg =>
    unfold mz_step at hz
    unfold mz_step
    dsimp only at hz ⊢
    split at hz
    · exact hK _ _ _ _ hz
    · exact hz.elim
  case iand =>
    unfold mz_step at hz
    unfold mz_step
    dsimp only at hz ⊢
    split at hz
    · exact hK _ _ _ _ hz
    · exact hz.elim
  case ior =>
    unfold mz_step at hz
    unfold mz_step
    dsimp only at hz ⊢
    split at hz
    · exact hK _ _ _ _ hz
    · exact hz.elim
  case ixor =>
    unfold mz_step at hz
    unfold mz_step
    dsimp only at hz ⊢
    split at hz
    · exact hK _ _ _ _ hz
    · exact hz.elim
  case ishl =>
    unfold mz_step at hz
    unfold mz_step
    dsimp only at hz ⊢
    split at hz
    · exact hK _ _ _ _ hz
    · exact hz.elim
  case ishr =>
    unfold mz_step at hz
    unfold mz_step
    dsimp only at hz ⊢
    split at hz
    · exact hK _ _ _ _ hz
    · exact hz.elim
  case iushr =>
    unfold mz_step at hz
    unfold mz_step
    dsimp only at hz ⊢
    split at hz
    · exact hK _ _ _ _ hz
    · exact hz.elim
  case ladd =>
    unfold mz_step at hz
    unfold mz_step
    dsimp only at hz ⊢
    split at hz
    · exact hK _ _ _ _ hz
    · exact hz.elim
  case lsub =>
    unfold mz_step at hz
    unfold mz_step
    dsimp only at hz ⊢
    split at hz
    · exact hK _ _ _ _ hz
    · exact hz.elim
  case lmul =>
    unfold mz_step at hz
    unfold mz_step
    dsimp only at hz ⊢
    split at hz
    · exact hK _ _ _ _ hz
    · exact hz.elim
  case lneg =>
    unfold mz_step at hz
    unfold mz_step
    dsimp only at hz ⊢
    split at hz
    · exact hK _ _ _ _ hz
    · exact hz.elim
  case land =>
    unfold mz_step at hz
    unfold mz_step
    dsimp only at hz ⊢
    split at hz
    · exact hK _ _ _ _ hz
    · exact hz.elim
  case lor =>
    unfold mz_step at hz
    unfold mz_step
    dsimp only at hz ⊢
    split at hz
    · exact hK _ _ _ _ hz
    · exact hz.elim
  case lxor =>
    unfold mz_step at hz
    unfold mz_step
    dsimp only at hz ⊢
    split at hz
    · exact hK _ _ _ _ hz
    · exact hz.elim
  case lshl =>
    unfold mz_step at hz
    unfold mz_step
    dsimp only at hz ⊢
    split at hz
    · exact hK _ _ _ _ hz
    · exact hz.elim
  case lshr =>
    unfold mz_step at hz
    unfold mz_step
    dsimp only at hz ⊢
    split at hz
    · exact hK _ _ _ _ hz
    · exact hz.elim
  case lushr =>
    unfold mz_step at hz
    unfold mz_step
    dsimp only at hz ⊢
    split at hz
    · exact hK _ _ _ _ hz
    · exact hz.elim
  case i2l =>
    unfold mz_step at hz
    unfold mz_step
    dsimp only at hz ⊢
    split at hz
    · exact hK _ _ _ _ hz
    · exact hz.elim
  case l2i =>
    unfold mz_step at hz
    unfold mz_step
    dsimp only at hz ⊢
    split at hz
    · exact hK _ _ _ _ hz
    · exact hz.elim
  case i2b =>
    unfold mz_step at hz
    unfold mz_step
    dsimp only at hz ⊢
    split at hz
    · exact hK _ _ _ _ hz
    · exact hz.elim
  case i2s =>
    unfold mz_step at hz
    unfold mz_step
    dsimp only at hz ⊢
    split at hz
    · exact hK _ _ _ _ hz
    · exact hz.elim
  case i2c =>
    unfold mz_step at hz
    unfold mz_step
    dsimp only at hz ⊢
    split at hz
    · exact hK _ _ _ _ hz
    · exact hz.elim
  case lcmp =>
    unfold mz_step at hz
    unfold mz_step
    dsimp only at hz ⊢
    split at hz
    · exact hK _ _ _ _ hz
    · exact hz.elim
  case idiv =>
    unfold mz_step at hz
    unfold mz_step
    dsimp only at hz ⊢
    split at hz
    · exact ⟨hz.1, hK _ _ _ _ hz.2⟩
    · exact hz.elim
  case irem =>
    unfold mz_step at hz
    unfold mz_step
    dsimp only at hz ⊢
    split at hz
    · exact ⟨hz.1, hK _ _ _ _ hz.2⟩
    · exact hz.elim
  case ldiv =>
    unfold mz_step at hz
    unfold mz_step
    dsimp only at hz ⊢
    split at hz
    · exact ⟨hz.1, hK _ _ _ _ hz.2⟩
    · exact hz.elim
  case lrem =>
    unfold mz_step at hz
    unfold mz_step
    dsimp only at hz ⊢
    split at hz
    · exact ⟨hz.1, hK _ _ _ _ hz.2⟩
    · exact hz.elim
  case dup =>
    unfold mz_step at hz
    unfold mz_step
    dsimp only at hz ⊢
    split at hz
    · exact hz.elim
    · next v st9 hne =>
      match v, hne, hz with
      | .inl n, _, hz => exact hK _ _ _ _ hz
      | .inr (.inl n), hne, _ => exact (hne n rfl).elim
      | .inr (.inr r), _, hz => exact hK _ _ _ _ hz
    · exact hz.elim
  case pop =>
    unfold mz_step at hz
    unfold mz_step
    dsimp only at hz ⊢
    split at hz
    · exact hz.elim
    · next v st9 hne =>
      match v, hne, hz with
      | .inl n, _, hz => exact hK _ _ _ _ hz
      | .inr (.inl n), hne, _ => exact (hne n rfl).elim
      | .inr (.inr r), _, hz => exact hK _ _ _ _ hz
    · exact hz.elim
  case pop2 =>
    unfold mz_step at hz
    unfold mz_step
    dsimp only at hz ⊢
    split at hz
    · exact hK _ _ _ _ hz
    · exact hz.elim
  case dup2 =>
    unfold mz_step at hz
    unfold mz_step
    dsimp only at hz ⊢
    split at hz
    · exact hK _ _ _ _ hz
    · exact hz.elim
    · next v w st9 hne1 hne2 =>
      match v, w, hne1, hne2, hz with
      | .inr (.inl n), _, hne1, _, _ => exact (hne1 n rfl).elim
      | .inl _, .inr (.inl n), _, hne2, _ => exact (hne2 n rfl).elim
      | .inr (.inr _), .inr (.inl n), _, hne2, _ => exact (hne2 n rfl).elim
      | .inl _, .inl _, _, _, hz => exact hK _ _ _ _ hz
      | .inl _, .inr (.inr _), _, _, hz => exact hK _ _ _ _ hz
      | .inr (.inr _), .inl _, _, _, hz => exact hK _ _ _ _ hz
      | .inr (.inr _), .inr (.inr _), _, _, hz => exact hK _ _ _ _ hz
    · exact hz.elim
  case ifCond cd off =>
    unfold mz_step at hz
    unfold mz_step
    dsimp only at hz ⊢
    split at hz
    · exact ⟨fun z => hJ _ _ _ _ _ (hz.1 z), fun z => hK _ _ _ _ (hz.2 z)⟩
    · exact hz.elim
  case if_icmp cd off =>
    unfold mz_step at hz
    unfold mz_step
    dsimp only at hz ⊢
    split at hz
    · exact ⟨fun z => hJ _ _ _ _ _ (hz.1 z), fun z => hK _ _ _ _ (hz.2 z)⟩
    · exact hz.elim
  case goto off =>
    unfold mz_step at hz
    unfold mz_step
    dsimp only at hz ⊢
    split at hz
    · exact hJ _ _ _ _ _ hz
    · exact hz.elim
  case tableswitch df lo hi offs =>
    unfold mz_step at hz
    unfold mz_step
    dsimp only at hz ⊢
    split at hz
    · exact ⟨fun z => hJ _ _ _ _ _ (hz.1 z), fun z => hJ _ _ _ _ _ (hz.2 z)⟩
    · exact hz.elim
  case lookupswitch df ps =>
    unfold mz_step at hz
    unfold mz_step
    dsimp only at hz ⊢
    split at hz
    · exact ⟨fun z => hJ _ _ _ _ _ (hz.1 z), fun k q a b => hJ _ _ _ _ _ (hz.2 k q a b)⟩
    · exact hz.elim
  case getfield i =>
    unfold mz_step at hz
    unfold mz_step
    dsimp only at hz ⊢
    split at hz
    · split at hz
      · split at hz
        · next hb =>
          try simp only [hb]
          split at hz
          · exact hK _ _ _ _ hz
          · next hne =>
            exact hK _ _ _ _ hz
        · exact hz.elim
      · exact hz.elim
    · split at hz
      · split at hz
        · next e9 =>
          try simp only [e9]
          split at hz
          · next hb =>
            try simp only [hb]
            split at hz
            · split at hz
              · next e8 => (try simp only [e8]); exact hK _ _ _ _ hz
              · exact hz.elim
            · next hne =>
              exact hK _ _ _ _ hz
          · exact hz.elim
        · exact hz.elim
      · exact hz.elim
    · exact hz.elim
  case putfield i =>
    unfold mz_step at hz
    unfold mz_step
    dsimp only at hz ⊢
    split at hz
    · split at hz
      · split at hz
        · next e9 =>
          try simp only [e9]
          split at hz
          · next hb =>
            try simp only [hb]
            exact hK _ _ _ _ hz
          · exact hz.elim
        · exact hz.elim
      · exact hz.elim
    · split at hz
      · split at hz
        · next e9 =>
          try simp only [e9]
          split at hz
          · next hb =>
            try simp only [hb]
            exact ⟨ hz.1, hK _ _ _ _ hz.2 ⟩
          · exact hz.elim
        · exact hz.elim
      · exact hz.elim
    · split at hz
      · split at hz
        · next e9 =>
          try simp only [e9]
          split at hz
          · next hb =>
            try simp only [hb]
            exact hK _ _ _ _ hz
          · exact hz.elim
        · exact hz.elim
      · exact hz.elim
    · exact hz.elim
  case iaload =>
    unfold mz_step at hz
    unfold mz_step
    dsimp only at hz ⊢
    split at hz
    · split at hz
      · next e9 => (try simp only [e9]); exact ⟨hz.1, hK _ _ _ _ hz.2⟩
      · exact hz.elim
    · split at hz
      · next e9 => (try simp only [e9]); exact ⟨hz.1, hK _ _ _ _ hz.2⟩
      · exact hz.elim
    · exact hz.elim
  case baload =>
    unfold mz_step at hz
    unfold mz_step
    dsimp only at hz ⊢
    split at hz
    · split at hz
      · next e9 => (try simp only [e9]); exact ⟨hz.1, hK _ _ _ _ hz.2⟩
      · exact hz.elim
    · split at hz
      · next e9 => (try simp only [e9]); exact ⟨hz.1, hK _ _ _ _ hz.2⟩
      · exact hz.elim
    · exact hz.elim
  case laload =>
    unfold mz_step at hz
    unfold mz_step
    dsimp only at hz ⊢
    split at hz
    · split at hz
      · next e9 => (try simp only [e9]); exact ⟨hz.1, hK _ _ _ _ hz.2⟩
      · exact hz.elim
    · exact hz.elim
  case iastore =>
    unfold mz_step at hz
    unfold mz_step
    dsimp only at hz ⊢
    split at hz
    · split at hz
      · next e9 => (try simp only [e9]); exact ⟨hz.1, hK _ _ _ _ hz.2⟩
      · exact hz.elim
    · exact hz.elim
  case lastore =>
    unfold mz_step at hz
    unfold mz_step
    dsimp only at hz ⊢
    split at hz
    · split at hz
      · next e9 => (try simp only [e9]); exact ⟨hz.1, hK _ _ _ _ hz.2⟩
      · exact hz.elim
    · exact hz.elim
  case bastore =>
    unfold mz_step at hz
    unfold mz_step
    dsimp only at hz ⊢
    split at hz
    · split at hz
      · next e9 => (try simp only [e9]); exact ⟨hz.1, hz.2.1, hK _ _ _ _ hz.2.2⟩
      · exact hz.elim
    · exact hz.elim
  case arraylength =>
    unfold mz_step at hz
    unfold mz_step
    dsimp only at hz ⊢
    split at hz
    · split at hz
      · next e9 => (try simp only [e9]); exact hK _ _ _ _ hz
      · exact hz.elim
    · split at hz
      · next e9 => (try simp only [e9]); exact hK _ _ _ _ hz
      · next e9 =>
        try simp only [e9]
        split at hz
        · next e8 => (try simp only [e8]); exact hK _ _ _ _ hz
        · exact hz.elim
    · exact hz.elim
  case new i =>
    unfold mz_step at hz
    unfold mz_step
    dsimp only at hz ⊢
    split at hz
    · split at hz
      · next e9 e8 =>
        try simp only [e9, e8]
        exact hz
      · exact hz.elim
    · exact hz.elim
  case ldc i =>
    unfold mz_step at hz
    unfold mz_step
    dsimp only at hz ⊢
    split at hz
    · exact hK _ _ _ _ hz
    · exact hK _ _ _ _ hz
    · exact hz.elim
  case ldc_w i =>
    unfold mz_step at hz
    unfold mz_step
    dsimp only at hz ⊢
    split at hz
    · exact hK _ _ _ _ hz
    · exact hK _ _ _ _ hz
    · exact hz.elim
  case ldc2_w i =>
    unfold mz_step at hz
    unfold mz_step
    dsimp only at hz ⊢
    split at hz
    · exact hK _ _ _ _ hz
    · exact hz.elim
  case getstatic i =>
    unfold mz_step at hz
    unfold mz_step
    dsimp only at hz ⊢
    split at hz
    · exact hK _ _ _ _ hz
    · exact ⟨hK _ _ _ _ hz.1, hK _ _ _ _ hz.2⟩
    · exact hK _ _ _ _ hz
    · exact hz.elim
  case invokestatic i =>
    unfold mz_step at hz
    unfold mz_step
    dsimp only at hz ⊢
    split at hz
    · split at hz
      · next e9 => (try simp only [e9]); exact go hK hJ hz
      · exact hz.elim
    · split at hz
      · next e9 => (try simp only [e9]); exact ⟨hz.1, hz.2.1, go hK hJ hz.2.2⟩
      · exact hz.elim
    · split at hz
      · split at hz
        · next e9 e8 =>
          try simp only [e9, e8]
          split at hz
          · next hb =>
            try simp only [hb]
            exact ⟨hz.1, hz.2.1, hz.2.2.1, hz.2.2.2.1, hz.2.2.2.2.1, hK _ _ _ _ hz.2.2.2.2.2⟩
          · exact hz.elim
        · exact hz.elim
      · exact hz.elim
    · exact hz.elim
  case invokevirtual i =>
    unfold mz_step at hz
    unfold mz_step
    dsimp only at hz ⊢
    split at hz
    · split at hz
      · next e9 =>
        try simp only [e9]
        split at hz
        · next e8 =>
          try simp only [e8]
          split at hz
          · next hb =>
            try simp only [hb]
            exact go hK hJ hz
          · exact hz.elim
        · exact hz.elim
      · exact hz.elim
    · split at hz
      · next e9 =>
        try simp only [e9]
        split at hz
        · next e8 =>
          try simp only [e8]
          split at hz
          · next hb =>
            try simp only [hb]
            exact ⟨ hz.1, hz.2.1, go hK hJ hz.2.2 ⟩
          · exact hz.elim
        · exact hz.elim
      · exact hz.elim
    · split at hz
      · next e9 =>
        try simp only [e9]
        split at hz
        · next e8 => (try simp only [e8]); exact go hK hJ hz
        · exact hz.elim
      · exact hz.elim
    · exact hz.elim
  case ireturn =>
    unfold mz_step at hz
    unfold mz_step
    dsimp only at hz ⊢
    split at hz
    · split at hz
      · split at hz
        · exact hz
        · exact hz
        · exact hz
        · next h2 h3 h4 =>
          exact hz
      · exact hz.elim
    · exact hz.elim
  case lreturn =>
    unfold mz_step at hz
    unfold mz_step
    dsimp only at hz ⊢
    split at hz
    · split at hz
      · exact hz
      · exact hz.elim
    · exact hz.elim
  case return_ =>
    unfold mz_step at hz
    unfold mz_step
    dsimp only at hz ⊢
    split at hz
    · split at hz
      · exact hz
      · exact hz.elim
    · exact hz.elim
  all_goals exact (hz : False).elim
theorem mz_monoB (hM : ∀ m as g (K K' : mz_K) (X X' : mz_X), (∀ n g, K n g → K' n g) → (∀ x g, X x g → X' x g) → C m as g K X → C m as g K' X') (hJ : ∀ pc L st g u, J pc L st g u → J' pc L st g u) : ∀ (is : List mx_E) (L : mx_L) (st : List mx_v) (g : mz_S) (u : Nat × Nat), mz_B F sh rk rt C J Q X is L st g u → mz_B F sh rk rt C J' Q X is L st g u
  | [], _, _, _, _, h => h
  | (_, _, _, _) :: r, _, _, _, _, h => mz_monos hM hJ (fun L st g u z => mz_monoB hM hJ r L st g u z) h
theorem mz_A_out (hM : ∀ m as g (K K' : mz_K) (X X' : mz_X), (∀ n g, K n g → K' n g) → (∀ x g, X x g → X' x g) → C m as g K X → C m as g K' X') {tb : List mx_E} {pc : Nat} {L : mx_L} {st : List mx_v} {g : mz_S} {u : Nat × Nat} (h : mz_A F sh rk rt C tb Q X pc L st g u) : mz_B F sh rk rt C (mz_A F sh rk rt C tb Q X) Q X (mx_sfx tb pc) L st g u :=
  h (fun pc L st g u => mz_B F sh rk rt C (mz_A F sh rk rt C tb Q X) Q X (mx_sfx tb pc) L st g u) (fun _ _ L st g u hJ hB => mz_monoB hM (fun pc L st g u z => mz_A_in (hJ pc L st g u z)) _ L st g u hB)
end MZM
