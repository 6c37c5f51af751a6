/-! what the class answers: type, constant, ends, assigned -/
/-- a program that stands without ERRORS: its exps, its S's -/
def AxL (E A : Nat → Nat) (σ : CsC) (z : ZS) (T : TbT) : Prop := ExL E A σ z ∧ ∀ q, q < xnM z → TwC σ (A q) (T.1 q)
def KnL (E B V : Nat → Nat) (σ : CsC) (z : ZS) : Prop := StL E B σ z ∧ (fRC σ (E 1) 212 = some (E 212) ∧ LiC σ (E 212) (vnW z) V ∧ vnW z ≤ 60) ∧ ∀ j, j < snM z → KbC (fLC σ (B j) 274) (knS z j) ∧ (SkD z j → ∀ p ∈ knS z j, 0 ≤ p.1 ∧ p.1 < (vnW z : Int))
theorem kb_n {x : Int64} {l : List (Int × Int)} (h : KbC x l) {v : Int} (h0 : 0 ≤ v) (h1 : v < 64) : x.toBitVec.getLsbD v.toNat = true ↔ ∃ p ∈ l, p.1 = v := by
  rw [h v.toNat (by omega), Int.toNat_of_nonneg h0]
  exact ⟨fun ⟨k, hk⟩ => ⟨_, hk, rfl⟩, fun ⟨p, hp, e⟩ => ⟨p.2, by rw [← e]; exact hp⟩⟩
abbrev Pz_type : ((Int → Int) × (Nat → Nat) × (Nat → Nat) × (Nat → Nat) × (Nat → Nat) × ZS × TbT) → CpC := fun y As σ => match y with
  | (N, E, A, B, V, z, T) => ∃ (p1 : Int32) (p2 : Int32), As = [.inr (.inr (some (E 11))), .inl p1, .inl p2] ∧ (fRC σ (E 11) 363 = some (E 1)) ∧ (fIC σ (E 1) 217 = 0 → AxL E A σ z T)
abbrev Qz_type : ((Int → Int) × (Nat → Nat) × (Nat → Nat) × (Nat → Nat) × (Nat → Nat) × ZS × TbT) → CqC := fun y As σ w τ => match y, As with
  | (N, E, A, B, V, z, T), [_, .inl p1, .inl p2] => σ = τ ∧ ∃ r, w = some (.inl r) ∧ ((erC E σ ∧ r.toInt = -2) ∨ (¬ erC E σ ∧ ((r.toInt = -1 ∧ ∀ q, q < xnM z → ¬ EqX z q p1.toInt p2.toInt) ∨ ∃ q, q < xnM z ∧ EqX z q p1.toInt p2.toInt ∧ r.toInt = (T.1 q).1)))
  | _, _ => True
abbrev Uz_type : CqC := fun As σ w τ => ∀ y, Pz_type y As σ → Qz_type y As σ w τ
set_option maxHeartbeats 4000000 in
theorem pz_type (y : (Int → Int) × (Nat → Nat) × (Nat → Nat) × (Nat → Nat) × (Nat → Nat) × ZS × TbT) : PbC KX11_type [(120, TrP, EqC 120)] [(120, Uz_expAt)] (fun As σ => Pz_type y As σ ∧ cnC σ ≤ 1000000 ∧ ∃ w τ, uqC quL 212 As σ w τ) (Qz_type y) := by
  obtain ⟨N, E, A, B, V, z, T⟩ := y
  rintro As σ ⟨⟨p1, p2, rfl, hPG, hg⟩, hcn, _, _, hQ⟩ K hB hW n_
  change K n_ 0 [(0, .inr (.inr (some (E 11)))), (1, .inl p1), (2, .inl p2)] [] σ
  refine hB _ _ _ _ _ (fun m51 hm51 => ?_)
  dsimp only [ucgo, ucwp, ucsC, uqC, uoC, ctC, rfd, KX11_type, KX11_type_0, KX11_type_10, KX11_type_13, KX11_type_27, KX11_type_31, KX11_type_35, lkC, s1C, s2C, dlC, kyC, Nat.beq, Nat.ble, rcd, rno, rsw, Nat.reduceAdd, Nat.reduceBEq, Nat.reduceDiv, List.drop, List.take, List.reverse, List.reverseAux, Int.toNat, Option.toList, List.append, List.cons_append, List.nil_append, zg68, zg217, zg363]
  intro a52 e52 ob52
  cases e52
  intro a54 e54 ob54
  obtain rfl : E 1 = a54 := Option.some.inj (hPG.symm.trans e54)
  refine ⟨fun h56 => ?_, fun h56 => ?_⟩
  · have g56 := (eqI (x := (fIC σ (E 1) 217)) (y := 0) h56 : ((fIC σ (E 1) 217) : Int32).toInt = (0 : Int32).toInt)
    have z0_ : (0 : Int32).toInt = 0 := rfl
    have he0 : fIC σ (E 1) 217 = 0 := Int32.toInt_inj.mp (by omega)
    have hX9 := hg he0
    refine hB _ _ _ _ _ (fun m57 hm57 => ?_)
    dsimp only [ucgo, ucwp, ucsC, uqC, uoC, ctC, rfd, KX11_type, KX11_type_0, KX11_type_10, KX11_type_13, KX11_type_27, KX11_type_31, KX11_type_35, lkC, s1C, s2C, dlC, kyC, Nat.beq, Nat.ble, rcd, rno, rsw, Nat.reduceAdd, Nat.reduceBEq, Nat.reduceDiv, List.drop, List.take, List.reverse, List.reverseAux, Int.toNat, Option.toList, List.append, List.cons_append, List.nil_append, zg68, zg217, zg363]
    intro a58 e58 ob58
    cases e58
    rw [hPG]
    try dsimp only
    intro w60 τ60 o60 q60
    obtain ⟨rfl, qq60⟩ := q60 (N, E, A, B, V, z) ⟨_, _, rfl, hX9.1⟩
    rcases qq60 with ⟨rfl, hn60⟩ | ⟨jq, hjq, rfl, he60⟩
    · try dsimp only [Option.toList, List.cons_append, List.nil_append, s1C, s2C, dlC, kyC, Nat.beq, lkC, rcd, rno, rsw]
      refine ⟨fun b61 h61 => ?_, fun h61 => ?_⟩
      · cases h61
      · skip
        refine hB _ _ _ _ _ (fun m62 hm62 => ?_)
        dsimp only [ucgo, ucwp, ucsC, uqC, uoC, ctC, rfd, KX11_type, KX11_type_0, KX11_type_10, KX11_type_13, KX11_type_27, KX11_type_31, KX11_type_35, lkC, s1C, s2C, dlC, kyC, Nat.beq, Nat.ble, rcd, rno, rsw, Nat.reduceAdd, Nat.reduceBEq, Nat.reduceDiv, List.drop, List.take, List.reverse, List.reverseAux, Int.toNat, Option.toList, List.append, List.cons_append, List.nil_append, zg68, zg217, zg363]
        have c63 : (Int32.ofInt (-1)).toInt = -1 := by decide
        refine hB _ _ _ _ _ (fun m64 hm64 => ?_)
        dsimp only [ucgo, ucwp, ucsC, uqC, uoC, ctC, rfd, KX11_type, KX11_type_0, KX11_type_10, KX11_type_13, KX11_type_27, KX11_type_31, KX11_type_35, lkC, s1C, s2C, dlC, kyC, Nat.beq, Nat.ble, rcd, rno, rsw, Nat.reduceAdd, Nat.reduceBEq, Nat.reduceDiv, List.drop, List.take, List.reverse, List.reverseAux, Int.toNat, Option.toList, List.append, List.cons_append, List.nil_append, zg68, zg217, zg363]
        try dsimp only [Qz_type]
        exact ⟨rfl, _, rfl, Or.inr ⟨fun q9 => q9 he0, Or.inl ⟨by omega, hn60⟩⟩⟩
    · obtain ⟨ob, hob⟩ : ∃ o, A jq = o := ⟨_, rfl⟩
      rw [hob]
      try dsimp only [Option.toList, List.cons_append, List.nil_append, s1C, s2C, dlC, kyC, Nat.beq, lkC, rcd, rno, rsw]
      refine ⟨fun b65 h65 => ?_, fun h65 => ?_⟩
      · skip
        refine hB _ _ _ _ _ (fun m66 hm66 => ?_)
        dsimp only [ucgo, ucwp, ucsC, uqC, uoC, ctC, rfd, KX11_type, KX11_type_0, KX11_type_10, KX11_type_13, KX11_type_27, KX11_type_31, KX11_type_35, lkC, s1C, s2C, dlC, kyC, Nat.beq, Nat.ble, rcd, rno, rsw, Nat.reduceAdd, Nat.reduceBEq, Nat.reduceDiv, List.drop, List.take, List.reverse, List.reverseAux, Int.toNat, Option.toList, List.append, List.cons_append, List.nil_append, zg68, zg217, zg363]
        intro a67 e67 ob67
        cases e67
        have f68 : (fIC σ ob 68).toInt = (T.1 jq).1 := by rw [← hob]; exact (hX9.2 jq hjq).1
        refine hB _ _ _ _ _ (fun m69 hm69 => ?_)
        dsimp only [ucgo, ucwp, ucsC, uqC, uoC, ctC, rfd, KX11_type, KX11_type_0, KX11_type_10, KX11_type_13, KX11_type_27, KX11_type_31, KX11_type_35, lkC, s1C, s2C, dlC, kyC, Nat.beq, Nat.ble, rcd, rno, rsw, Nat.reduceAdd, Nat.reduceBEq, Nat.reduceDiv, List.drop, List.take, List.reverse, List.reverseAux, Int.toNat, Option.toList, List.append, List.cons_append, List.nil_append, zg68, zg217, zg363]
        try dsimp only [Qz_type]
        exact ⟨rfl, _, rfl, Or.inr ⟨fun q9 => q9 he0, Or.inr ⟨jq, hjq, he60, by omega⟩⟩⟩
      · exact absurd ((Eq.refl (some ob)).symm.trans h65) (by intro q9; cases q9)
  · have g56 := (neI (x := (fIC σ (E 1) 217)) (y := 0) h56 : ¬ ((fIC σ (E 1) 217) : Int32).toInt = (0 : Int32).toInt)
    have z0_ : (0 : Int32).toInt = 0 := rfl
    refine hB _ _ _ _ _ (fun m70 hm70 => ?_)
    dsimp only [ucgo, ucwp, ucsC, uqC, uoC, ctC, rfd, KX11_type, KX11_type_0, KX11_type_10, KX11_type_13, KX11_type_27, KX11_type_31, KX11_type_35, lkC, s1C, s2C, dlC, kyC, Nat.beq, Nat.ble, rcd, rno, rsw, Nat.reduceAdd, Nat.reduceBEq, Nat.reduceDiv, List.drop, List.take, List.reverse, List.reverseAux, Int.toNat, Option.toList, List.append, List.cons_append, List.nil_append, zg68, zg217, zg363]
    have c71 : (Int32.ofInt (-2)).toInt = -2 := by decide
    try dsimp only [Qz_type]
    exact ⟨rfl, _, rfl, Or.inl ⟨fun q9 => by have q8 := congrArg Int32.toInt q9; have q7 : (0 : Int32).toInt = 0 := rfl; omega, by omega⟩⟩
theorem wz_type : ∀ (L : Nat) (As : List AvC) (σ : CsC) (w : Option AvC) (τ : CsC), EvF L 212 As σ w τ → Uz_type As σ w τ := by
  intro L
  cases L with
  | zero => exact fun _ _ _ _ h => h.elim
  | succ L => exact fun As σ w τ h y hy => EvF.us (cs := [120]) (pz_type y) rfl (List.forall_mem_cons.2 ⟨wz_expAt L, fun _ h => absurd h List.not_mem_nil⟩) h hy
abbrev Pz_constant : ((Int → Int) × (Nat → Nat) × (Nat → Nat) × (Nat → Nat) × (Nat → Nat) × ZS × TbT) → CpC := fun y As σ => match y with
  | (N, E, A, B, V, z, T) => ∃ (p1 : Int32) (p2 : Int32), As = [.inr (.inr (some (E 11))), .inl p1, .inl p2] ∧ (fRC σ (E 11) 363 = some (E 1)) ∧ (fIC σ (E 1) 217 = 0 → AxL E A σ z T)
abbrev Qz_constant : ((Int → Int) × (Nat → Nat) × (Nat → Nat) × (Nat → Nat) × (Nat → Nat) × ZS × TbT) → CqC := fun y As σ w τ => match y, As with
  | (N, E, A, B, V, z, T), [_, .inl p1, .inl p2] => σ = τ ∧ ∃ r, w = some (.inr (.inl r)) ∧ ((erC E σ ∧ r = Int64.ofInt (-1234567890123)) ∨ (¬ erC E σ ∧ ((r = Int64.ofInt (-1234567890123) ∧ ∀ q, q < xnM z → ¬ EqX z q p1.toInt p2.toInt) ∨ ∃ q, q < xnM z ∧ EqX z q p1.toInt p2.toInt ∧ r = if (T.1 q).2.1 = 0 then Int64.ofInt (-1234567890123) else (T.1 q).2.2.1)))
  | _, _ => True
abbrev Uz_constant : CqC := fun As σ w τ => ∀ y, Pz_constant y As σ → Qz_constant y As σ w τ
set_option maxHeartbeats 4000000 in
theorem pz_constant (y : (Int → Int) × (Nat → Nat) × (Nat → Nat) × (Nat → Nat) × (Nat → Nat) × ZS × TbT) : PbC KX11_constant [(120, TrP, EqC 120)] [(120, Uz_expAt)] (fun As σ => Pz_constant y As σ ∧ cnC σ ≤ 1000000 ∧ ∃ w τ, uqC quL 213 As σ w τ) (Qz_constant y) := by
  obtain ⟨N, E, A, B, V, z, T⟩ := y
  rintro As σ ⟨⟨p1, p2, rfl, hPG, hg⟩, hcn, _, _, hQ⟩ K hB hW n_
  change K n_ 0 [(0, .inr (.inr (some (E 11)))), (1, .inl p1), (2, .inl p2)] [] σ
  refine hB _ _ _ _ _ (fun m51 hm51 => ?_)
  dsimp only [ucgo, ucwp, ucsC, uqC, uoC, ctC, rfd, KX11_constant, KX11_constant_0, KX11_constant_10, KX11_constant_14, KX11_constant_28, KX11_constant_35, KX11_constant_41, KX11_constant_45, lkC, s1C, s2C, dlC, kyC, Nat.beq, Nat.ble, rcd, rno, rsw, Nat.reduceAdd, Nat.reduceBEq, Nat.reduceDiv, List.drop, List.take, List.reverse, List.reverseAux, Int.toNat, Option.toList, List.append, List.cons_append, List.nil_append, zg70, zg71, zg217, zg363]
  intro a52 e52 ob52
  cases e52
  intro a54 e54 ob54
  obtain rfl : E 1 = a54 := Option.some.inj (hPG.symm.trans e54)
  refine ⟨fun h56 => ?_, fun h56 => ?_⟩
  · have g56 := (eqI (x := (fIC σ (E 1) 217)) (y := 0) h56 : ((fIC σ (E 1) 217) : Int32).toInt = (0 : Int32).toInt)
    have z0_ : (0 : Int32).toInt = 0 := rfl
    have he0 : fIC σ (E 1) 217 = 0 := Int32.toInt_inj.mp (by omega)
    have hX9 := hg he0
    refine hB _ _ _ _ _ (fun m57 hm57 => ?_)
    dsimp only [ucgo, ucwp, ucsC, uqC, uoC, ctC, rfd, KX11_constant, KX11_constant_0, KX11_constant_10, KX11_constant_14, KX11_constant_28, KX11_constant_35, KX11_constant_41, KX11_constant_45, lkC, s1C, s2C, dlC, kyC, Nat.beq, Nat.ble, rcd, rno, rsw, Nat.reduceAdd, Nat.reduceBEq, Nat.reduceDiv, List.drop, List.take, List.reverse, List.reverseAux, Int.toNat, Option.toList, List.append, List.cons_append, List.nil_append, zg70, zg71, zg217, zg363]
    intro a58 e58 ob58
    cases e58
    rw [hPG]
    try dsimp only
    intro w60 τ60 o60 q60
    obtain ⟨rfl, qq60⟩ := q60 (N, E, A, B, V, z) ⟨_, _, rfl, hX9.1⟩
    rcases qq60 with ⟨rfl, hn60⟩ | ⟨jq, hjq, rfl, he60⟩
    · try dsimp only [Option.toList, List.cons_append, List.nil_append, s1C, s2C, dlC, kyC, Nat.beq, lkC, rcd, rno, rsw]
      refine ⟨fun h61 => ?_, fun b61 h61 => ?_⟩
      · skip
        refine hB _ _ _ _ _ (fun m62 hm62 => ?_)
        dsimp only [ucgo, ucwp, ucsC, uqC, uoC, ctC, rfd, KX11_constant, KX11_constant_0, KX11_constant_10, KX11_constant_14, KX11_constant_28, KX11_constant_35, KX11_constant_41, KX11_constant_45, lkC, s1C, s2C, dlC, kyC, Nat.beq, Nat.ble, rcd, rno, rsw, Nat.reduceAdd, Nat.reduceBEq, Nat.reduceDiv, List.drop, List.take, List.reverse, List.reverseAux, Int.toNat, Option.toList, List.append, List.cons_append, List.nil_append, zg70, zg71, zg217, zg363]
        refine hB _ _ _ _ _ (fun m63 hm63 => ?_)
        dsimp only [ucgo, ucwp, ucsC, uqC, uoC, ctC, rfd, KX11_constant, KX11_constant_0, KX11_constant_10, KX11_constant_14, KX11_constant_28, KX11_constant_35, KX11_constant_41, KX11_constant_45, lkC, s1C, s2C, dlC, kyC, Nat.beq, Nat.ble, rcd, rno, rsw, Nat.reduceAdd, Nat.reduceBEq, Nat.reduceDiv, List.drop, List.take, List.reverse, List.reverseAux, Int.toNat, Option.toList, List.append, List.cons_append, List.nil_append, zg70, zg71, zg217, zg363]
        try dsimp only [Qz_constant]
        exact ⟨rfl, _, rfl, Or.inr ⟨fun q9 => q9 he0, Or.inl ⟨by first | rfl | decide, hn60⟩⟩⟩
      · cases h61
    · obtain ⟨ob, hob⟩ : ∃ o, A jq = o := ⟨_, rfl⟩
      rw [hob]
      try dsimp only [Option.toList, List.cons_append, List.nil_append, s1C, s2C, dlC, kyC, Nat.beq, lkC, rcd, rno, rsw]
      refine ⟨fun h64 => ?_, fun b64 h64 => ?_⟩
      · exact absurd ((Eq.refl (some ob)).symm.trans h64) (by intro q9; cases q9)
      · skip
        refine hB _ _ _ _ _ (fun m65 hm65 => ?_)
        dsimp only [ucgo, ucwp, ucsC, uqC, uoC, ctC, rfd, KX11_constant, KX11_constant_0, KX11_constant_10, KX11_constant_14, KX11_constant_28, KX11_constant_35, KX11_constant_41, KX11_constant_45, lkC, s1C, s2C, dlC, kyC, Nat.beq, Nat.ble, rcd, rno, rsw, Nat.reduceAdd, Nat.reduceBEq, Nat.reduceDiv, List.drop, List.take, List.reverse, List.reverseAux, Int.toNat, Option.toList, List.append, List.cons_append, List.nil_append, zg70, zg71, zg217, zg363]
        intro a66 e66 ob66
        cases e66
        have f67 : (fIC σ ob 70).toInt = (T.1 jq).2.1 := by rw [← hob]; exact (hX9.2 jq hjq).2.1
        refine ⟨fun h68 => ?_, fun h68 => ?_⟩
        · have g68 := (neI (x := (fIC σ ob 70)) (y := 0) h68 : ¬ ((fIC σ ob 70) : Int32).toInt = (0 : Int32).toInt)
          have z0_ : (0 : Int32).toInt = 0 := rfl
          refine hB _ _ _ _ _ (fun m69 hm69 => ?_)
          dsimp only [ucgo, ucwp, ucsC, uqC, uoC, ctC, rfd, KX11_constant, KX11_constant_0, KX11_constant_10, KX11_constant_14, KX11_constant_28, KX11_constant_35, KX11_constant_41, KX11_constant_45, lkC, s1C, s2C, dlC, kyC, Nat.beq, Nat.ble, rcd, rno, rsw, Nat.reduceAdd, Nat.reduceBEq, Nat.reduceDiv, List.drop, List.take, List.reverse, List.reverseAux, Int.toNat, Option.toList, List.append, List.cons_append, List.nil_append, zg70, zg71, zg217, zg363]
          intro a70 e70 ob70
          cases e70
          have f71 : (fLC σ ob 71) = (T.1 jq).2.2.1 := by rw [← hob]; exact (hX9.2 jq hjq).2.2
          refine hB _ _ _ _ _ (fun m72 hm72 => ?_)
          dsimp only [ucgo, ucwp, ucsC, uqC, uoC, ctC, rfd, KX11_constant, KX11_constant_0, KX11_constant_10, KX11_constant_14, KX11_constant_28, KX11_constant_35, KX11_constant_41, KX11_constant_45, lkC, s1C, s2C, dlC, kyC, Nat.beq, Nat.ble, rcd, rno, rsw, Nat.reduceAdd, Nat.reduceBEq, Nat.reduceDiv, List.drop, List.take, List.reverse, List.reverseAux, Int.toNat, Option.toList, List.append, List.cons_append, List.nil_append, zg70, zg71, zg217, zg363]
          try dsimp only [Qz_constant]
          exact ⟨rfl, _, rfl, Or.inr ⟨fun q9 => q9 he0, Or.inr ⟨jq, hjq, he60, by rw [if_neg (by omega)]; exact f71⟩⟩⟩
        · have g68 := (eqI (x := (fIC σ ob 70)) (y := 0) h68 : ((fIC σ ob 70) : Int32).toInt = (0 : Int32).toInt)
          have z0_ : (0 : Int32).toInt = 0 := rfl
          refine hB _ _ _ _ _ (fun m73 hm73 => ?_)
          dsimp only [ucgo, ucwp, ucsC, uqC, uoC, ctC, rfd, KX11_constant, KX11_constant_0, KX11_constant_10, KX11_constant_14, KX11_constant_28, KX11_constant_35, KX11_constant_41, KX11_constant_45, lkC, s1C, s2C, dlC, kyC, Nat.beq, Nat.ble, rcd, rno, rsw, Nat.reduceAdd, Nat.reduceBEq, Nat.reduceDiv, List.drop, List.take, List.reverse, List.reverseAux, Int.toNat, Option.toList, List.append, List.cons_append, List.nil_append, zg70, zg71, zg217, zg363]
          refine hB _ _ _ _ _ (fun m74 hm74 => ?_)
          dsimp only [ucgo, ucwp, ucsC, uqC, uoC, ctC, rfd, KX11_constant, KX11_constant_0, KX11_constant_10, KX11_constant_14, KX11_constant_28, KX11_constant_35, KX11_constant_41, KX11_constant_45, lkC, s1C, s2C, dlC, kyC, Nat.beq, Nat.ble, rcd, rno, rsw, Nat.reduceAdd, Nat.reduceBEq, Nat.reduceDiv, List.drop, List.take, List.reverse, List.reverseAux, Int.toNat, Option.toList, List.append, List.cons_append, List.nil_append, zg70, zg71, zg217, zg363]
          try dsimp only [Qz_constant]
          exact ⟨rfl, _, rfl, Or.inr ⟨fun q9 => q9 he0, Or.inr ⟨jq, hjq, he60, by rw [if_pos (by omega)]⟩⟩⟩
  · have g56 := (neI (x := (fIC σ (E 1) 217)) (y := 0) h56 : ¬ ((fIC σ (E 1) 217) : Int32).toInt = (0 : Int32).toInt)
    have z0_ : (0 : Int32).toInt = 0 := rfl
    refine hB _ _ _ _ _ (fun m75 hm75 => ?_)
    dsimp only [ucgo, ucwp, ucsC, uqC, uoC, ctC, rfd, KX11_constant, KX11_constant_0, KX11_constant_10, KX11_constant_14, KX11_constant_28, KX11_constant_35, KX11_constant_41, KX11_constant_45, lkC, s1C, s2C, dlC, kyC, Nat.beq, Nat.ble, rcd, rno, rsw, Nat.reduceAdd, Nat.reduceBEq, Nat.reduceDiv, List.drop, List.take, List.reverse, List.reverseAux, Int.toNat, Option.toList, List.append, List.cons_append, List.nil_append, zg70, zg71, zg217, zg363]
    try dsimp only [Qz_constant]
    exact ⟨rfl, _, rfl, Or.inl ⟨fun q9 => by have q8 := congrArg Int32.toInt q9; have q7 : (0 : Int32).toInt = 0 := rfl; omega, by first | rfl | decide⟩⟩
theorem wz_constant : ∀ (L : Nat) (As : List AvC) (σ : CsC) (w : Option AvC) (τ : CsC), EvF L 213 As σ w τ → Uz_constant As σ w τ := by
  intro L
  cases L with
  | zero => exact fun _ _ _ _ h => h.elim
  | succ L => exact fun As σ w τ h y hy => EvF.us (cs := [120]) (pz_constant y) rfl (List.forall_mem_cons.2 ⟨wz_expAt L, fun _ h => absurd h List.not_mem_nil⟩) h hy
abbrev Pz_ends : ((Int → Int) × (Nat → Nat) × (Nat → Nat) × (Nat → Nat) × (Nat → Nat) × ZS) → CpC := fun y As σ => match y with
  | (N, E, A, B, V, z) => ∃ (p1 : Int32), As = [.inr (.inr (some (E 11))), .inl p1] ∧ (fRC σ (E 11) 363 = some (E 1)) ∧ (fIC σ (E 1) 217 = 0 → StL E B σ z)
abbrev Qz_ends : ((Int → Int) × (Nat → Nat) × (Nat → Nat) × (Nat → Nat) × (Nat → Nat) × ZS) → CqC := fun y As σ w τ => match y, As with
  | (N, E, A, B, V, z), [_, .inl p1] => σ = τ ∧ ∃ r, w = some (.inl r) ∧ ((erC E σ ∧ r.toInt = -2) ∨ (¬ erC E σ ∧ ((r.toInt = -1 ∧ ∀ q, q < snM z → ¬ EqS z q p1.toInt) ∨ ∃ q, q < snM z ∧ EqS z q p1.toInt ∧ ((¬ (fIC σ (B q) 282).toInt = 0 ∧ r.toInt = 1) ∨ ((fIC σ (B q) 282).toInt = 0 ∧ r.toInt = 0)))))
  | _, _ => True
abbrev Uz_ends : CqC := fun As σ w τ => ∀ y, Pz_ends y As σ → Qz_ends y As σ w τ
set_option maxHeartbeats 4000000 in
theorem pz_ends (y : (Int → Int) × (Nat → Nat) × (Nat → Nat) × (Nat → Nat) × (Nat → Nat) × ZS) : PbC KX11_ends [(121, TrP, EqC 121)] [(121, Uz_statementAt)] (fun As σ => Pz_ends y As σ ∧ cnC σ ≤ 1000000 ∧ ∃ w τ, uqC quL 214 As σ w τ) (Qz_ends y) := by
  obtain ⟨N, E, A, B, V, z⟩ := y
  rintro As σ ⟨⟨p1, rfl, hPG, hg⟩, hcn, _, _, hQ⟩ K hB hW n_
  change K n_ 0 [(0, .inr (.inr (some (E 11)))), (1, .inl p1)] [] σ
  refine hB _ _ _ _ _ (fun m51 hm51 => ?_)
  dsimp only [ucgo, ucwp, ucsC, uqC, uoC, ctC, rfd, KX11_ends, KX11_ends_0, KX11_ends_10, KX11_ends_13, KX11_ends_26, KX11_ends_28, KX11_ends_35, KX11_ends_39, KX11_ends_40, lkC, s1C, s2C, dlC, kyC, Nat.beq, Nat.ble, rcd, rno, rsw, Nat.reduceAdd, Nat.reduceBEq, Nat.reduceDiv, List.drop, List.take, List.reverse, List.reverseAux, Int.toNat, Option.toList, List.append, List.cons_append, List.nil_append, zg217, zg282, zg363]
  intro a52 e52 ob52
  cases e52
  intro a54 e54 ob54
  obtain rfl : E 1 = a54 := Option.some.inj (hPG.symm.trans e54)
  refine ⟨fun h56 => ?_, fun h56 => ?_⟩
  · have g56 := (eqI (x := (fIC σ (E 1) 217)) (y := 0) h56 : ((fIC σ (E 1) 217) : Int32).toInt = (0 : Int32).toInt)
    have z0_ : (0 : Int32).toInt = 0 := rfl
    have he0 : fIC σ (E 1) 217 = 0 := Int32.toInt_inj.mp (by omega)
    have hX9 := hg he0
    refine hB _ _ _ _ _ (fun m57 hm57 => ?_)
    dsimp only [ucgo, ucwp, ucsC, uqC, uoC, ctC, rfd, KX11_ends, KX11_ends_0, KX11_ends_10, KX11_ends_13, KX11_ends_26, KX11_ends_28, KX11_ends_35, KX11_ends_39, KX11_ends_40, lkC, s1C, s2C, dlC, kyC, Nat.beq, Nat.ble, rcd, rno, rsw, Nat.reduceAdd, Nat.reduceBEq, Nat.reduceDiv, List.drop, List.take, List.reverse, List.reverseAux, Int.toNat, Option.toList, List.append, List.cons_append, List.nil_append, zg217, zg282, zg363]
    intro a58 e58 ob58
    cases e58
    rw [hPG]
    try dsimp only
    intro w60 τ60 o60 q60
    obtain ⟨rfl, qq60⟩ := q60 (N, E, A, B, V, z) ⟨_, rfl, hX9⟩
    rcases qq60 with ⟨rfl, hn60⟩ | ⟨jq, hjq, rfl, he60⟩
    · try dsimp only [Option.toList, List.cons_append, List.nil_append, s1C, s2C, dlC, kyC, Nat.beq, lkC, rcd, rno, rsw]
      refine ⟨fun b61 h61 => ?_, fun h61 => ?_⟩
      · cases h61
      · skip
        refine hB _ _ _ _ _ (fun m62 hm62 => ?_)
        dsimp only [ucgo, ucwp, ucsC, uqC, uoC, ctC, rfd, KX11_ends, KX11_ends_0, KX11_ends_10, KX11_ends_13, KX11_ends_26, KX11_ends_28, KX11_ends_35, KX11_ends_39, KX11_ends_40, lkC, s1C, s2C, dlC, kyC, Nat.beq, Nat.ble, rcd, rno, rsw, Nat.reduceAdd, Nat.reduceBEq, Nat.reduceDiv, List.drop, List.take, List.reverse, List.reverseAux, Int.toNat, Option.toList, List.append, List.cons_append, List.nil_append, zg217, zg282, zg363]
        have c63 : (Int32.ofInt (-1)).toInt = -1 := by decide
        try dsimp only [Qz_ends]
        exact ⟨rfl, _, rfl, Or.inr ⟨fun q9 => q9 he0, Or.inl ⟨by omega, hn60⟩⟩⟩
    · obtain ⟨ob, hob⟩ : ∃ o, B jq = o := ⟨_, rfl⟩
      rw [hob]
      try dsimp only [Option.toList, List.cons_append, List.nil_append, s1C, s2C, dlC, kyC, Nat.beq, lkC, rcd, rno, rsw]
      refine ⟨fun b64 h64 => ?_, fun h64 => ?_⟩
      · skip
        refine hB _ _ _ _ _ (fun m65 hm65 => ?_)
        dsimp only [ucgo, ucwp, ucsC, uqC, uoC, ctC, rfd, KX11_ends, KX11_ends_0, KX11_ends_10, KX11_ends_13, KX11_ends_26, KX11_ends_28, KX11_ends_35, KX11_ends_39, KX11_ends_40, lkC, s1C, s2C, dlC, kyC, Nat.beq, Nat.ble, rcd, rno, rsw, Nat.reduceAdd, Nat.reduceBEq, Nat.reduceDiv, List.drop, List.take, List.reverse, List.reverseAux, Int.toNat, Option.toList, List.append, List.cons_append, List.nil_append, zg217, zg282, zg363]
        intro a66 e66 ob66
        cases e66
        refine ⟨fun h68 => ?_, fun h68 => ?_⟩
        · have g68 := (eqI (x := (fIC σ ob 282)) (y := 0) h68 : ((fIC σ ob 282) : Int32).toInt = (0 : Int32).toInt)
          have z0_ : (0 : Int32).toInt = 0 := rfl
          refine hB _ _ _ _ _ (fun m69 hm69 => ?_)
          dsimp only [ucgo, ucwp, ucsC, uqC, uoC, ctC, rfd, KX11_ends, KX11_ends_0, KX11_ends_10, KX11_ends_13, KX11_ends_26, KX11_ends_28, KX11_ends_35, KX11_ends_39, KX11_ends_40, lkC, s1C, s2C, dlC, kyC, Nat.beq, Nat.ble, rcd, rno, rsw, Nat.reduceAdd, Nat.reduceBEq, Nat.reduceDiv, List.drop, List.take, List.reverse, List.reverseAux, Int.toNat, Option.toList, List.append, List.cons_append, List.nil_append, zg217, zg282, zg363]
          have c70 : (Int32.ofInt 0).toInt = 0 := by decide
          refine hB _ _ _ _ _ (fun m71 hm71 => ?_)
          dsimp only [ucgo, ucwp, ucsC, uqC, uoC, ctC, rfd, KX11_ends, KX11_ends_0, KX11_ends_10, KX11_ends_13, KX11_ends_26, KX11_ends_28, KX11_ends_35, KX11_ends_39, KX11_ends_40, lkC, s1C, s2C, dlC, kyC, Nat.beq, Nat.ble, rcd, rno, rsw, Nat.reduceAdd, Nat.reduceBEq, Nat.reduceDiv, List.drop, List.take, List.reverse, List.reverseAux, Int.toNat, Option.toList, List.append, List.cons_append, List.nil_append, zg217, zg282, zg363]
          try dsimp only [Qz_ends]
          exact ⟨rfl, _, rfl, Or.inr ⟨fun q9 => q9 he0, Or.inr ⟨jq, hjq, he60, by rw [hob]; omega⟩⟩⟩
        · have g68 := (neI (x := (fIC σ ob 282)) (y := 0) h68 : ¬ ((fIC σ ob 282) : Int32).toInt = (0 : Int32).toInt)
          have z0_ : (0 : Int32).toInt = 0 := rfl
          refine hB _ _ _ _ _ (fun m72 hm72 => ?_)
          dsimp only [ucgo, ucwp, ucsC, uqC, uoC, ctC, rfd, KX11_ends, KX11_ends_0, KX11_ends_10, KX11_ends_13, KX11_ends_26, KX11_ends_28, KX11_ends_35, KX11_ends_39, KX11_ends_40, lkC, s1C, s2C, dlC, kyC, Nat.beq, Nat.ble, rcd, rno, rsw, Nat.reduceAdd, Nat.reduceBEq, Nat.reduceDiv, List.drop, List.take, List.reverse, List.reverseAux, Int.toNat, Option.toList, List.append, List.cons_append, List.nil_append, zg217, zg282, zg363]
          have c73 : (Int32.ofInt 1).toInt = 1 := by decide
          refine hB _ _ _ _ _ (fun m74 hm74 => ?_)
          dsimp only [ucgo, ucwp, ucsC, uqC, uoC, ctC, rfd, KX11_ends, KX11_ends_0, KX11_ends_10, KX11_ends_13, KX11_ends_26, KX11_ends_28, KX11_ends_35, KX11_ends_39, KX11_ends_40, lkC, s1C, s2C, dlC, kyC, Nat.beq, Nat.ble, rcd, rno, rsw, Nat.reduceAdd, Nat.reduceBEq, Nat.reduceDiv, List.drop, List.take, List.reverse, List.reverseAux, Int.toNat, Option.toList, List.append, List.cons_append, List.nil_append, zg217, zg282, zg363]
          try dsimp only [Qz_ends]
          exact ⟨rfl, _, rfl, Or.inr ⟨fun q9 => q9 he0, Or.inr ⟨jq, hjq, he60, by rw [hob]; omega⟩⟩⟩
      · exact absurd ((Eq.refl (some ob)).symm.trans h64) (by intro q9; cases q9)
  · have g56 := (neI (x := (fIC σ (E 1) 217)) (y := 0) h56 : ¬ ((fIC σ (E 1) 217) : Int32).toInt = (0 : Int32).toInt)
    have z0_ : (0 : Int32).toInt = 0 := rfl
    refine hB _ _ _ _ _ (fun m75 hm75 => ?_)
    dsimp only [ucgo, ucwp, ucsC, uqC, uoC, ctC, rfd, KX11_ends, KX11_ends_0, KX11_ends_10, KX11_ends_13, KX11_ends_26, KX11_ends_28, KX11_ends_35, KX11_ends_39, KX11_ends_40, lkC, s1C, s2C, dlC, kyC, Nat.beq, Nat.ble, rcd, rno, rsw, Nat.reduceAdd, Nat.reduceBEq, Nat.reduceDiv, List.drop, List.take, List.reverse, List.reverseAux, Int.toNat, Option.toList, List.append, List.cons_append, List.nil_append, zg217, zg282, zg363]
    have c76 : (Int32.ofInt (-2)).toInt = -2 := by decide
    try dsimp only [Qz_ends]
    exact ⟨rfl, _, rfl, Or.inl ⟨fun q9 => by have q8 := congrArg Int32.toInt q9; have q7 : (0 : Int32).toInt = 0 := rfl; omega, by omega⟩⟩
theorem wz_ends : ∀ (L : Nat) (As : List AvC) (σ : CsC) (w : Option AvC) (τ : CsC), EvF L 214 As σ w τ → Uz_ends As σ w τ := by
  intro L
  cases L with
  | zero => exact fun _ _ _ _ h => h.elim
  | succ L => exact fun As σ w τ h y hy => EvF.us (cs := [121]) (pz_ends y) rfl (List.forall_mem_cons.2 ⟨wz_statementAt L, fun _ h => absurd h List.not_mem_nil⟩) h hy
abbrev Pz_assigned : ((Int → Int) × (Nat → Nat) × (Nat → Nat) × (Nat → Nat) × (Nat → Nat) × ZS) → CpC := fun y As σ => match y with
  | (N, E, A, B, V, z) => ∃ (p1 : Int32) (p2 : Int32), As = [.inr (.inr (some (E 11))), .inl p1, .inl p2] ∧ (fRC σ (E 11) 363 = some (E 1)) ∧ (fIC σ (E 1) 217 = 0 → KnL E B V σ z)
abbrev Qz_assigned : ((Int → Int) × (Nat → Nat) × (Nat → Nat) × (Nat → Nat) × (Nat → Nat) × ZS) → CqC := fun y As σ w τ => match y, As with
  | (N, E, A, B, V, z), [_, .inl p1, .inl p2] => σ = τ ∧ ∃ r, w = some (.inl r) ∧ ((erC E σ ∧ r.toInt = -2) ∨ (¬ erC E σ ∧ ((r.toInt = -1 ∧ ((∀ q, q < snM z → ¬ EqS z q p1.toInt) ∨ ∃ q, q < snM z ∧ EqS z q p1.toInt ∧ ¬ ∃ p ∈ knS z q, p.1 = p2.toInt)) ∨ ∃ q, q < snM z ∧ EqS z q p1.toInt ∧ (∃ p ∈ knS z q, p.1 = p2.toInt) ∧ ((hasQ (fLC σ (B q) 285) p2.toInt = true ∧ r.toInt = 1) ∨ (hasQ (fLC σ (B q) 285) p2.toInt = false ∧ r.toInt = 0)))))
  | _, _ => True
abbrev Uz_assigned : CqC := fun As σ w τ => ∀ y, Pz_assigned y As σ → Qz_assigned y As σ w τ
set_option maxHeartbeats 4000000 in
theorem pz_assigned (y : (Int → Int) × (Nat → Nat) × (Nat → Nat) × (Nat → Nat) × (Nat → Nat) × ZS) : PbC KX11_assigned [(121, TrP, EqC 121), (234, TrP, EqC 234), (221, TrP, EqC 221)] [(121, Uz_statementAt), (221, Uz_has)] (fun As σ => Pz_assigned y As σ ∧ cnC σ ≤ 1000000 ∧ ∃ w τ, uqC quL 215 As σ w τ) (Qz_assigned y) := by
  obtain ⟨N, E, A, B, V, z⟩ := y
  rintro As σ ⟨⟨p1, p2, rfl, hPG, hg⟩, hcn, _, _, hQ⟩ K hB hW n_
  change K n_ 0 [(0, .inr (.inr (some (E 11)))), (1, .inl p1), (2, .inl p2)] [] σ
  refine hB _ _ _ _ _ (fun m51 hm51 => ?_)
  dsimp only [ucgo, ucwp, ucsC, uqC, uoC, ctC, rfd, KX11_assigned, KX11_assigned_0, KX11_assigned_10, KX11_assigned_13, KX11_assigned_26, KX11_assigned_30, KX11_assigned_44, KX11_assigned_55, KX11_assigned_57, KX11_assigned_68, KX11_assigned_72, KX11_assigned_73, lkC, s1C, s2C, dlC, kyC, Nat.beq, Nat.ble, rcd, rno, rsw, Nat.reduceAdd, Nat.reduceBEq, Nat.reduceDiv, List.drop, List.take, List.reverse, List.reverseAux, Int.toNat, Option.toList, List.append, List.cons_append, List.nil_append, zg212, zg217, zg274, zg285, zg363]
  intro a52 e52 ob52
  cases e52
  intro a54 e54 ob54
  obtain rfl : E 1 = a54 := Option.some.inj (hPG.symm.trans e54)
  refine ⟨fun h56 => ?_, fun h56 => ?_⟩
  · have g56 := (eqI (x := (fIC σ (E 1) 217)) (y := 0) h56 : ((fIC σ (E 1) 217) : Int32).toInt = (0 : Int32).toInt)
    have z0_ : (0 : Int32).toInt = 0 := rfl
    have he0 : fIC σ (E 1) 217 = 0 := Int32.toInt_inj.mp (by omega)
    have hX9 := hg he0
    refine hB _ _ _ _ _ (fun m57 hm57 => ?_)
    dsimp only [ucgo, ucwp, ucsC, uqC, uoC, ctC, rfd, KX11_assigned, KX11_assigned_0, KX11_assigned_10, KX11_assigned_13, KX11_assigned_26, KX11_assigned_30, KX11_assigned_44, KX11_assigned_55, KX11_assigned_57, KX11_assigned_68, KX11_assigned_72, KX11_assigned_73, lkC, s1C, s2C, dlC, kyC, Nat.beq, Nat.ble, rcd, rno, rsw, Nat.reduceAdd, Nat.reduceBEq, Nat.reduceDiv, List.drop, List.take, List.reverse, List.reverseAux, Int.toNat, Option.toList, List.append, List.cons_append, List.nil_append, zg212, zg217, zg274, zg285, zg363]
    intro a58 e58 ob58
    cases e58
    rw [hPG]
    try dsimp only
    intro w60 τ60 o60 q60
    obtain ⟨rfl, qq60⟩ := q60 (N, E, A, B, V, z) ⟨_, rfl, hX9.1⟩
    rcases qq60 with ⟨rfl, hn60⟩ | ⟨jq, hjq, rfl, he60⟩
    · try dsimp only [Option.toList, List.cons_append, List.nil_append, s1C, s2C, dlC, kyC, Nat.beq, lkC, rcd, rno, rsw]
      refine ⟨fun h61 => ?_, fun b61 h61 => ?_⟩
      · skip
        refine hB _ _ _ _ _ (fun m62 hm62 => ?_)
        dsimp only [ucgo, ucwp, ucsC, uqC, uoC, ctC, rfd, KX11_assigned, KX11_assigned_0, KX11_assigned_10, KX11_assigned_13, KX11_assigned_26, KX11_assigned_30, KX11_assigned_44, KX11_assigned_55, KX11_assigned_57, KX11_assigned_68, KX11_assigned_72, KX11_assigned_73, lkC, s1C, s2C, dlC, kyC, Nat.beq, Nat.ble, rcd, rno, rsw, Nat.reduceAdd, Nat.reduceBEq, Nat.reduceDiv, List.drop, List.take, List.reverse, List.reverseAux, Int.toNat, Option.toList, List.append, List.cons_append, List.nil_append, zg212, zg217, zg274, zg285, zg363]
        have c63 : (Int32.ofInt (-1)).toInt = -1 := by decide
        try dsimp only [Qz_assigned]
        exact ⟨rfl, _, rfl, Or.inr ⟨fun q9 => q9 he0, Or.inl ⟨by omega, Or.inl hn60⟩⟩⟩
      · cases h61
    · obtain ⟨ob, hob⟩ : ∃ o, B jq = o := ⟨_, rfl⟩
      rw [hob]
      try dsimp only [Option.toList, List.cons_append, List.nil_append, s1C, s2C, dlC, kyC, Nat.beq, lkC, rcd, rno, rsw]
      refine ⟨fun h64 => ?_, fun b64 h64 => ?_⟩
      · exact absurd ((Eq.refl (some ob)).symm.trans h64) (by intro q9; cases q9)
      · skip
        refine hB _ _ _ _ _ (fun m65 hm65 => ?_)
        dsimp only [ucgo, ucwp, ucsC, uqC, uoC, ctC, rfd, KX11_assigned, KX11_assigned_0, KX11_assigned_10, KX11_assigned_13, KX11_assigned_26, KX11_assigned_30, KX11_assigned_44, KX11_assigned_55, KX11_assigned_57, KX11_assigned_68, KX11_assigned_72, KX11_assigned_73, lkC, s1C, s2C, dlC, kyC, Nat.beq, Nat.ble, rcd, rno, rsw, Nat.reduceAdd, Nat.reduceBEq, Nat.reduceDiv, List.drop, List.take, List.reverse, List.reverseAux, Int.toNat, Option.toList, List.append, List.cons_append, List.nil_append, zg212, zg217, zg274, zg285, zg363]
        refine ⟨fun h66 => ?_, fun h66 => ?_⟩
        · have g66 := ltI (x := p2) (y := 0) h66
          have z0_ : (0 : Int32).toInt = 0 := rfl
          refine hB _ _ _ _ _ (fun m67 hm67 => ?_)
          dsimp only [ucgo, ucwp, ucsC, uqC, uoC, ctC, rfd, KX11_assigned, KX11_assigned_0, KX11_assigned_10, KX11_assigned_13, KX11_assigned_26, KX11_assigned_30, KX11_assigned_44, KX11_assigned_55, KX11_assigned_57, KX11_assigned_68, KX11_assigned_72, KX11_assigned_73, lkC, s1C, s2C, dlC, kyC, Nat.beq, Nat.ble, rcd, rno, rsw, Nat.reduceAdd, Nat.reduceBEq, Nat.reduceDiv, List.drop, List.take, List.reverse, List.reverseAux, Int.toNat, Option.toList, List.append, List.cons_append, List.nil_append, zg212, zg217, zg274, zg285, zg363]
          have c68 : (Int32.ofInt (-1)).toInt = -1 := by decide
          try dsimp only [Qz_assigned]
          exact ⟨rfl, _, rfl, Or.inr ⟨fun q9 => q9 he0, Or.inl ⟨by omega, Or.inr ⟨jq, hjq, he60, fun ⟨p9, q9, q8⟩ => by
              have q7 := (hX9.2.2 jq hjq).2 he60.2 p9 q9
              omega⟩⟩⟩⟩
        · have g66 := nltI (x := p2) (y := 0) h66
          have z0_ : (0 : Int32).toInt = 0 := rfl
          refine hB _ _ _ _ _ (fun m69 hm69 => ?_)
          dsimp only [ucgo, ucwp, ucsC, uqC, uoC, ctC, rfd, KX11_assigned, KX11_assigned_0, KX11_assigned_10, KX11_assigned_13, KX11_assigned_26, KX11_assigned_30, KX11_assigned_44, KX11_assigned_55, KX11_assigned_57, KX11_assigned_68, KX11_assigned_72, KX11_assigned_73, lkC, s1C, s2C, dlC, kyC, Nat.beq, Nat.ble, rcd, rno, rsw, Nat.reduceAdd, Nat.reduceBEq, Nat.reduceDiv, List.drop, List.take, List.reverse, List.reverseAux, Int.toNat, Option.toList, List.append, List.cons_append, List.nil_append, zg212, zg217, zg274, zg285, zg363]
          intro a70 e70 ob70
          cases e70
          intro a72 e72 ob72
          obtain rfl : E 1 = a72 := Option.some.inj (hPG.symm.trans e72)
          rw [hX9.2.1.1]
          try dsimp only
          intro w74 τ74 o74 q74
          obtain ⟨r74, rfl, rfl, hr74a, hr74b, hr74, -⟩ := (show Q_Jx4a65c_size_8abf5 [.inr (.inr (some (E 212)))] σ w74 τ74 from o74.1.1)
          have hs74_ : r74.toInt = (vnW z : Int) := by rw [← hr74]; exact hX9.2.1.2.1.1
          have hs742 := hX9.2.1.2.2
          try dsimp only [Option.toList, List.cons_append, List.nil_append, s1C, s2C, dlC, kyC, Nat.beq, lkC, rcd, rno, rsw]
          refine ⟨fun h75 => ?_, fun h75 => ?_⟩
          · have g75 := leI (x := r74) (y := p2) h75
            refine hB _ _ _ _ _ (fun m76 hm76 => ?_)
            dsimp only [ucgo, ucwp, ucsC, uqC, uoC, ctC, rfd, KX11_assigned, KX11_assigned_0, KX11_assigned_10, KX11_assigned_13, KX11_assigned_26, KX11_assigned_30, KX11_assigned_44, KX11_assigned_55, KX11_assigned_57, KX11_assigned_68, KX11_assigned_72, KX11_assigned_73, lkC, s1C, s2C, dlC, kyC, Nat.beq, Nat.ble, rcd, rno, rsw, Nat.reduceAdd, Nat.reduceBEq, Nat.reduceDiv, List.drop, List.take, List.reverse, List.reverseAux, Int.toNat, Option.toList, List.append, List.cons_append, List.nil_append, zg212, zg217, zg274, zg285, zg363]
            have c77 : (Int32.ofInt (-1)).toInt = -1 := by decide
            try dsimp only [Qz_assigned]
            exact ⟨rfl, _, rfl, Or.inr ⟨fun q9 => q9 he0, Or.inl ⟨by omega, Or.inr ⟨jq, hjq, he60, fun ⟨p9, q9, q8⟩ => by
                have q7 := (hX9.2.2 jq hjq).2 he60.2 p9 q9
                omega⟩⟩⟩⟩
          · have g75 := nleI (x := r74) (y := p2) h75
            refine hB _ _ _ _ _ (fun m78 hm78 => ?_)
            dsimp only [ucgo, ucwp, ucsC, uqC, uoC, ctC, rfd, KX11_assigned, KX11_assigned_0, KX11_assigned_10, KX11_assigned_13, KX11_assigned_26, KX11_assigned_30, KX11_assigned_44, KX11_assigned_55, KX11_assigned_57, KX11_assigned_68, KX11_assigned_72, KX11_assigned_73, lkC, s1C, s2C, dlC, kyC, Nat.beq, Nat.ble, rcd, rno, rsw, Nat.reduceAdd, Nat.reduceBEq, Nat.reduceDiv, List.drop, List.take, List.reverse, List.reverseAux, Int.toNat, Option.toList, List.append, List.cons_append, List.nil_append, zg212, zg217, zg274, zg285, zg363]
            intro a79 e79 ob79
            cases e79
            intro w81 τ81 o81 q81
            have qq81 := q81 (N, E, A, B, V, z, p2.toInt.toNat) ⟨_, _, rfl, by omega, by omega⟩
            rcases qq81 with ⟨r81, rfl, hr81, hh81, rfl⟩ | ⟨r81, rfl, hr81, hh81, rfl⟩
            · try dsimp only [Option.toList, List.cons_append, List.nil_append, s1C, s2C, dlC, kyC, Nat.beq, lkC, rcd, rno, rsw]
              refine ⟨fun h82 => ?_, fun h82 => ?_⟩
              · have g82 := (neI (x := r81) (y := 0) h82 : ¬ (r81 : Int32).toInt = (0 : Int32).toInt)
                have z0_ : (0 : Int32).toInt = 0 := rfl
                refine hB _ _ _ _ _ (fun m83 hm83 => ?_)
                dsimp only [ucgo, ucwp, ucsC, uqC, uoC, ctC, rfd, KX11_assigned, KX11_assigned_0, KX11_assigned_10, KX11_assigned_13, KX11_assigned_26, KX11_assigned_30, KX11_assigned_44, KX11_assigned_55, KX11_assigned_57, KX11_assigned_68, KX11_assigned_72, KX11_assigned_73, lkC, s1C, s2C, dlC, kyC, Nat.beq, Nat.ble, rcd, rno, rsw, Nat.reduceAdd, Nat.reduceBEq, Nat.reduceDiv, List.drop, List.take, List.reverse, List.reverseAux, Int.toNat, Option.toList, List.append, List.cons_append, List.nil_append, zg212, zg217, zg274, zg285, zg363]
                intro a84 e84 ob84
                cases e84
                intro w86 τ86 o86 q86
                have qq86 := q86 (N, E, A, B, V, z, p2.toInt.toNat) ⟨_, _, rfl, by omega, by omega⟩
                rcases qq86 with ⟨r86, rfl, hr86, hh86, rfl⟩ | ⟨r86, rfl, hr86, hh86, rfl⟩
                · try dsimp only [Option.toList, List.cons_append, List.nil_append, s1C, s2C, dlC, kyC, Nat.beq, lkC, rcd, rno, rsw]
                  refine ⟨fun h87 => ?_, fun h87 => ?_⟩
                  · have g87 := (eqI (x := r86) (y := 0) h87 : (r86 : Int32).toInt = (0 : Int32).toInt)
                    have z0_ : (0 : Int32).toInt = 0 := rfl
                    exfalso
                    omega
                  · have g87 := (neI (x := r86) (y := 0) h87 : ¬ (r86 : Int32).toInt = (0 : Int32).toInt)
                    have z0_ : (0 : Int32).toInt = 0 := rfl
                    refine hB _ _ _ _ _ (fun m88 hm88 => ?_)
                    dsimp only [ucgo, ucwp, ucsC, uqC, uoC, ctC, rfd, KX11_assigned, KX11_assigned_0, KX11_assigned_10, KX11_assigned_13, KX11_assigned_26, KX11_assigned_30, KX11_assigned_44, KX11_assigned_55, KX11_assigned_57, KX11_assigned_68, KX11_assigned_72, KX11_assigned_73, lkC, s1C, s2C, dlC, kyC, Nat.beq, Nat.ble, rcd, rno, rsw, Nat.reduceAdd, Nat.reduceBEq, Nat.reduceDiv, List.drop, List.take, List.reverse, List.reverseAux, Int.toNat, Option.toList, List.append, List.cons_append, List.nil_append, zg212, zg217, zg274, zg285, zg363]
                    have c89 : (Int32.ofInt 1).toInt = 1 := by decide
                    refine hB _ _ _ _ _ (fun m90 hm90 => ?_)
                    dsimp only [ucgo, ucwp, ucsC, uqC, uoC, ctC, rfd, KX11_assigned, KX11_assigned_0, KX11_assigned_10, KX11_assigned_13, KX11_assigned_26, KX11_assigned_30, KX11_assigned_44, KX11_assigned_55, KX11_assigned_57, KX11_assigned_68, KX11_assigned_72, KX11_assigned_73, lkC, s1C, s2C, dlC, kyC, Nat.beq, Nat.ble, rcd, rno, rsw, Nat.reduceAdd, Nat.reduceBEq, Nat.reduceDiv, List.drop, List.take, List.reverse, List.reverseAux, Int.toNat, Option.toList, List.append, List.cons_append, List.nil_append, zg212, zg217, zg274, zg285, zg363]
                    try dsimp only [Qz_assigned]
                    exact ⟨rfl, _, rfl, Or.inr ⟨fun q9 => q9 he0, Or.inr ⟨jq, hjq, he60, (kb_n (hX9.2.2 jq hjq).1 (v := p2.toInt) (by omega) (by omega)).mp (by rw [hob]; exact hh81), by rw [hob]; exact Or.inl ⟨hh86, by omega⟩⟩⟩⟩
                · try dsimp only [Option.toList, List.cons_append, List.nil_append, s1C, s2C, dlC, kyC, Nat.beq, lkC, rcd, rno, rsw]
                  refine ⟨fun h91 => ?_, fun h91 => ?_⟩
                  · have g91 := (eqI (x := r86) (y := 0) h91 : (r86 : Int32).toInt = (0 : Int32).toInt)
                    have z0_ : (0 : Int32).toInt = 0 := rfl
                    refine hB _ _ _ _ _ (fun m92 hm92 => ?_)
                    dsimp only [ucgo, ucwp, ucsC, uqC, uoC, ctC, rfd, KX11_assigned, KX11_assigned_0, KX11_assigned_10, KX11_assigned_13, KX11_assigned_26, KX11_assigned_30, KX11_assigned_44, KX11_assigned_55, KX11_assigned_57, KX11_assigned_68, KX11_assigned_72, KX11_assigned_73, lkC, s1C, s2C, dlC, kyC, Nat.beq, Nat.ble, rcd, rno, rsw, Nat.reduceAdd, Nat.reduceBEq, Nat.reduceDiv, List.drop, List.take, List.reverse, List.reverseAux, Int.toNat, Option.toList, List.append, List.cons_append, List.nil_append, zg212, zg217, zg274, zg285, zg363]
                    have c93 : (Int32.ofInt 0).toInt = 0 := by decide
                    refine hB _ _ _ _ _ (fun m94 hm94 => ?_)
                    dsimp only [ucgo, ucwp, ucsC, uqC, uoC, ctC, rfd, KX11_assigned, KX11_assigned_0, KX11_assigned_10, KX11_assigned_13, KX11_assigned_26, KX11_assigned_30, KX11_assigned_44, KX11_assigned_55, KX11_assigned_57, KX11_assigned_68, KX11_assigned_72, KX11_assigned_73, lkC, s1C, s2C, dlC, kyC, Nat.beq, Nat.ble, rcd, rno, rsw, Nat.reduceAdd, Nat.reduceBEq, Nat.reduceDiv, List.drop, List.take, List.reverse, List.reverseAux, Int.toNat, Option.toList, List.append, List.cons_append, List.nil_append, zg212, zg217, zg274, zg285, zg363]
                    try dsimp only [Qz_assigned]
                    exact ⟨rfl, _, rfl, Or.inr ⟨fun q9 => q9 he0, Or.inr ⟨jq, hjq, he60, (kb_n (hX9.2.2 jq hjq).1 (v := p2.toInt) (by omega) (by omega)).mp (by rw [hob]; exact hh81), by rw [hob]; exact Or.inr ⟨hh86, by omega⟩⟩⟩⟩
                  · have g91 := (neI (x := r86) (y := 0) h91 : ¬ (r86 : Int32).toInt = (0 : Int32).toInt)
                    have z0_ : (0 : Int32).toInt = 0 := rfl
                    exfalso
                    omega
              · have g82 := (eqI (x := r81) (y := 0) h82 : (r81 : Int32).toInt = (0 : Int32).toInt)
                have z0_ : (0 : Int32).toInt = 0 := rfl
                exfalso
                omega
            · try dsimp only [Option.toList, List.cons_append, List.nil_append, s1C, s2C, dlC, kyC, Nat.beq, lkC, rcd, rno, rsw]
              refine ⟨fun h95 => ?_, fun h95 => ?_⟩
              · have g95 := (neI (x := r81) (y := 0) h95 : ¬ (r81 : Int32).toInt = (0 : Int32).toInt)
                have z0_ : (0 : Int32).toInt = 0 := rfl
                exfalso
                omega
              · have g95 := (eqI (x := r81) (y := 0) h95 : (r81 : Int32).toInt = (0 : Int32).toInt)
                have z0_ : (0 : Int32).toInt = 0 := rfl
                refine hB _ _ _ _ _ (fun m96 hm96 => ?_)
                dsimp only [ucgo, ucwp, ucsC, uqC, uoC, ctC, rfd, KX11_assigned, KX11_assigned_0, KX11_assigned_10, KX11_assigned_13, KX11_assigned_26, KX11_assigned_30, KX11_assigned_44, KX11_assigned_55, KX11_assigned_57, KX11_assigned_68, KX11_assigned_72, KX11_assigned_73, lkC, s1C, s2C, dlC, kyC, Nat.beq, Nat.ble, rcd, rno, rsw, Nat.reduceAdd, Nat.reduceBEq, Nat.reduceDiv, List.drop, List.take, List.reverse, List.reverseAux, Int.toNat, Option.toList, List.append, List.cons_append, List.nil_append, zg212, zg217, zg274, zg285, zg363]
                have c97 : (Int32.ofInt (-1)).toInt = -1 := by decide
                try dsimp only [Qz_assigned]
                exact ⟨rfl, _, rfl, Or.inr ⟨fun q9 => q9 he0, Or.inl ⟨by omega, Or.inr ⟨jq, hjq, he60, fun q9 => by
                    have q8 := (kb_n (hX9.2.2 jq hjq).1 (v := p2.toInt) (by omega) (by omega)).mpr q9
                    rw [hob] at q8
                    rw [hh81] at q8
                    cases q8⟩⟩⟩⟩
  · have g56 := (neI (x := (fIC σ (E 1) 217)) (y := 0) h56 : ¬ ((fIC σ (E 1) 217) : Int32).toInt = (0 : Int32).toInt)
    have z0_ : (0 : Int32).toInt = 0 := rfl
    refine hB _ _ _ _ _ (fun m98 hm98 => ?_)
    dsimp only [ucgo, ucwp, ucsC, uqC, uoC, ctC, rfd, KX11_assigned, KX11_assigned_0, KX11_assigned_10, KX11_assigned_13, KX11_assigned_26, KX11_assigned_30, KX11_assigned_44, KX11_assigned_55, KX11_assigned_57, KX11_assigned_68, KX11_assigned_72, KX11_assigned_73, lkC, s1C, s2C, dlC, kyC, Nat.beq, Nat.ble, rcd, rno, rsw, Nat.reduceAdd, Nat.reduceBEq, Nat.reduceDiv, List.drop, List.take, List.reverse, List.reverseAux, Int.toNat, Option.toList, List.append, List.cons_append, List.nil_append, zg212, zg217, zg274, zg285, zg363]
    have c99 : (Int32.ofInt (-2)).toInt = -2 := by decide
    try dsimp only [Qz_assigned]
    exact ⟨rfl, _, rfl, Or.inl ⟨fun q9 => by have q8 := congrArg Int32.toInt q9; have q7 : (0 : Int32).toInt = 0 := rfl; omega, by omega⟩⟩
theorem wz_assigned : ∀ (L : Nat) (As : List AvC) (σ : CsC) (w : Option AvC) (τ : CsC), EvF L 215 As σ w τ → Uz_assigned As σ w τ := by
  intro L
  cases L with
  | zero => exact fun _ _ _ _ h => h.elim
  | succ L => exact fun As σ w τ h y hy => EvF.us (cs := [121, 234, 221]) (pz_assigned y) rfl (List.forall_mem_cons.2 ⟨wz_statementAt L, List.forall_mem_cons.2 ⟨fun _ _ _ _ _ => trivial, List.forall_mem_cons.2 ⟨wz_has L, fun _ h => absurd h List.not_mem_nil⟩⟩⟩) h hy
