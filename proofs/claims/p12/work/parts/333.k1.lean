abbrev Pz_isNumber : ((Int → Int) × (Nat → Nat) × (Nat → Nat) × (Nat → Nat) × (Nat → Nat) × ZS) → CpC := fun y As σ => match y with
  | (N, E, A, B, V, z) => ∃ (p0 : Int32), As = [.inl p0]
abbrev Qz_isNumber : ((Int → Int) × (Nat → Nat) × (Nat → Nat) × (Nat → Nat) × (Nat → Nat) × ZS) → CqC := fun y As σ w τ => match y, As with
  | (N, E, A, B, V, z), [.inl p0] => ∃ r, w = some (.inl r) ∧ ((r.toInt = 1 ∧ (nuT p0.toInt)) ∨ (r.toInt = 0 ∧ ¬ (nuT p0.toInt))) ∧ σ = τ
  | _, _ => True
abbrev Uz_isNumber : CqC := fun As σ w τ => ∀ y, Pz_isNumber y As σ → Qz_isNumber y As σ w τ
set_option maxHeartbeats 4000000 in
theorem pz_isNumber (y : (Int → Int) × (Nat → Nat) × (Nat → Nat) × (Nat → Nat) × (Nat → Nat) × ZS) : PbC KX11_isNumber [] [] (fun As σ => Pz_isNumber y As σ ∧ cnC σ ≤ 1000000 ∧ ∃ w τ, uqC quL 223 As σ w τ) (Qz_isNumber y) := by
  obtain ⟨N, E, A, B, V, z⟩ := y
  rintro As σ ⟨⟨p0, rfl⟩, hcn, _, _, hQ⟩ K hB hW n_
  change K n_ 0 [(0, .inl p0)] [] σ
  refine hB _ _ _ _ _ (fun m51 hm51 => ?_)
  dsimp only [ucgo, ucwp, ucsC, uqC, uoC, ctC, rfd, KX11_isNumber, KX11_isNumber_0, KX11_isNumber_5, KX11_isNumber_10, KX11_isNumber_14, KX11_isNumber_15, lkC, s1C, s2C, dlC, kyC, Nat.beq, Nat.ble, rcd, rno, rsw, Nat.reduceAdd, Nat.reduceBEq, Nat.reduceDiv, List.drop, List.take, List.reverse, List.reverseAux, Int.toNat, Option.toList, List.append, List.cons_append, List.nil_append]
  have c52 : (Int32.ofInt 1).toInt = 1 := by decide
  refine ⟨fun h53 => ?_, fun h53 => ?_⟩
  · have g53 := ltI (x := p0) (y := (Int32.ofInt 1)) h53
    refine hB _ _ _ _ _ (fun m54 hm54 => ?_)
    dsimp only [ucgo, ucwp, ucsC, uqC, uoC, ctC, rfd, KX11_isNumber, KX11_isNumber_0, KX11_isNumber_5, KX11_isNumber_10, KX11_isNumber_14, KX11_isNumber_15, lkC, s1C, s2C, dlC, kyC, Nat.beq, Nat.ble, rcd, rno, rsw, Nat.reduceAdd, Nat.reduceBEq, Nat.reduceDiv, List.drop, List.take, List.reverse, List.reverseAux, Int.toNat, Option.toList, List.append, List.cons_append, List.nil_append]
    have c55 : (Int32.ofInt 0).toInt = 0 := by decide
    refine hB _ _ _ _ _ (fun m56 hm56 => ?_)
    dsimp only [ucgo, ucwp, ucsC, uqC, uoC, ctC, rfd, KX11_isNumber, KX11_isNumber_0, KX11_isNumber_5, KX11_isNumber_10, KX11_isNumber_14, KX11_isNumber_15, lkC, s1C, s2C, dlC, kyC, Nat.beq, Nat.ble, rcd, rno, rsw, Nat.reduceAdd, Nat.reduceBEq, Nat.reduceDiv, List.drop, List.take, List.reverse, List.reverseAux, Int.toNat, Option.toList, List.append, List.cons_append, List.nil_append]
    try dsimp only [Qz_isNumber]
    exact ⟨_, rfl, Or.inr ⟨by omega, by unfold nuT; omega⟩, rfl⟩
  · have g53 := nltI (x := p0) (y := (Int32.ofInt 1)) h53
    refine hB _ _ _ _ _ (fun m57 hm57 => ?_)
    dsimp only [ucgo, ucwp, ucsC, uqC, uoC, ctC, rfd, KX11_isNumber, KX11_isNumber_0, KX11_isNumber_5, KX11_isNumber_10, KX11_isNumber_14, KX11_isNumber_15, lkC, s1C, s2C, dlC, kyC, Nat.beq, Nat.ble, rcd, rno, rsw, Nat.reduceAdd, Nat.reduceBEq, Nat.reduceDiv, List.drop, List.take, List.reverse, List.reverseAux, Int.toNat, Option.toList, List.append, List.cons_append, List.nil_append]
    have c58 : (Int32.ofInt 4).toInt = 4 := by decide
    refine ⟨fun h59 => ?_, fun h59 => ?_⟩
    · have g59 := ltI (x := (Int32.ofInt 4)) (y := p0) h59
      refine hB _ _ _ _ _ (fun m60 hm60 => ?_)
      dsimp only [ucgo, ucwp, ucsC, uqC, uoC, ctC, rfd, KX11_isNumber, KX11_isNumber_0, KX11_isNumber_5, KX11_isNumber_10, KX11_isNumber_14, KX11_isNumber_15, lkC, s1C, s2C, dlC, kyC, Nat.beq, Nat.ble, rcd, rno, rsw, Nat.reduceAdd, Nat.reduceBEq, Nat.reduceDiv, List.drop, List.take, List.reverse, List.reverseAux, Int.toNat, Option.toList, List.append, List.cons_append, List.nil_append]
      have c61 : (Int32.ofInt 0).toInt = 0 := by decide
      refine hB _ _ _ _ _ (fun m62 hm62 => ?_)
      dsimp only [ucgo, ucwp, ucsC, uqC, uoC, ctC, rfd, KX11_isNumber, KX11_isNumber_0, KX11_isNumber_5, KX11_isNumber_10, KX11_isNumber_14, KX11_isNumber_15, lkC, s1C, s2C, dlC, kyC, Nat.beq, Nat.ble, rcd, rno, rsw, Nat.reduceAdd, Nat.reduceBEq, Nat.reduceDiv, List.drop, List.take, List.reverse, List.reverseAux, Int.toNat, Option.toList, List.append, List.cons_append, List.nil_append]
      try dsimp only [Qz_isNumber]
      exact ⟨_, rfl, Or.inr ⟨by omega, by unfold nuT; omega⟩, rfl⟩
    · have g59 := nltI (x := (Int32.ofInt 4)) (y := p0) h59
      refine hB _ _ _ _ _ (fun m63 hm63 => ?_)
      dsimp only [ucgo, ucwp, ucsC, uqC, uoC, ctC, rfd, KX11_isNumber, KX11_isNumber_0, KX11_isNumber_5, KX11_isNumber_10, KX11_isNumber_14, KX11_isNumber_15, lkC, s1C, s2C, dlC, kyC, Nat.beq, Nat.ble, rcd, rno, rsw, Nat.reduceAdd, Nat.reduceBEq, Nat.reduceDiv, List.drop, List.take, List.reverse, List.reverseAux, Int.toNat, Option.toList, List.append, List.cons_append, List.nil_append]
      have c64 : (Int32.ofInt 1).toInt = 1 := by decide
      refine hB _ _ _ _ _ (fun m65 hm65 => ?_)
      dsimp only [ucgo, ucwp, ucsC, uqC, uoC, ctC, rfd, KX11_isNumber, KX11_isNumber_0, KX11_isNumber_5, KX11_isNumber_10, KX11_isNumber_14, KX11_isNumber_15, lkC, s1C, s2C, dlC, kyC, Nat.beq, Nat.ble, rcd, rno, rsw, Nat.reduceAdd, Nat.reduceBEq, Nat.reduceDiv, List.drop, List.take, List.reverse, List.reverseAux, Int.toNat, Option.toList, List.append, List.cons_append, List.nil_append]
      try dsimp only [Qz_isNumber]
      exact ⟨_, rfl, Or.inl ⟨by omega, by unfold nuT; omega⟩, rfl⟩
theorem wz_isNumber : ∀ (L : Nat) (As : List AvC) (σ : CsC) (w : Option AvC) (τ : CsC), EvF L 223 As σ w τ → Uz_isNumber As σ w τ := by
  intro L
  cases L with
  | zero => exact fun _ _ _ _ h => h.elim
  | succ L => exact fun As σ w τ h y hy => EvF.us (cs := []) (pz_isNumber y) rfl (fun _ h => absurd h List.not_mem_nil) h hy
abbrev Pz_isDivision : ((Int → Int) × (Nat → Nat) × (Nat → Nat) × (Nat → Nat) × (Nat → Nat) × ZS) → CpC := fun y As σ => match y with
  | (N, E, A, B, V, z) => ∃ (p0 : Int32), As = [.inl p0]
abbrev Qz_isDivision : ((Int → Int) × (Nat → Nat) × (Nat → Nat) × (Nat → Nat) × (Nat → Nat) × ZS) → CqC := fun y As σ w τ => match y, As with
  | (N, E, A, B, V, z), [.inl p0] => ∃ r, w = some (.inl r) ∧ ((r.toInt = 1 ∧ (p0.toInt = 37 ∨ p0.toInt = 38)) ∨ (r.toInt = 0 ∧ ¬ (p0.toInt = 37 ∨ p0.toInt = 38))) ∧ σ = τ
  | _, _ => True
abbrev Uz_isDivision : CqC := fun As σ w τ => ∀ y, Pz_isDivision y As σ → Qz_isDivision y As σ w τ
set_option maxHeartbeats 4000000 in
theorem pz_isDivision (y : (Int → Int) × (Nat → Nat) × (Nat → Nat) × (Nat → Nat) × (Nat → Nat) × ZS) : PbC KX11_isDivision [] [] (fun As σ => Pz_isDivision y As σ ∧ cnC σ ≤ 1000000 ∧ ∃ w τ, uqC quL 227 As σ w τ) (Qz_isDivision y) := by
  obtain ⟨N, E, A, B, V, z⟩ := y
  rintro As σ ⟨⟨p0, rfl⟩, hcn, _, _, hQ⟩ K hB hW n_
  change K n_ 0 [(0, .inl p0)] [] σ
  refine hB _ _ _ _ _ (fun m51 hm51 => ?_)
  dsimp only [ucgo, ucwp, ucsC, uqC, uoC, ctC, rfd, KX11_isDivision, KX11_isDivision_0, KX11_isDivision_6, KX11_isDivision_12, KX11_isDivision_16, KX11_isDivision_17, lkC, s1C, s2C, dlC, kyC, Nat.beq, Nat.ble, rcd, rno, rsw, Nat.reduceAdd, Nat.reduceBEq, Nat.reduceDiv, List.drop, List.take, List.reverse, List.reverseAux, Int.toNat, Option.toList, List.append, List.cons_append, List.nil_append]
  have c52 : (Int32.ofInt 37).toInt = 37 := by decide
  refine ⟨fun h53 => ?_, fun h53 => ?_⟩
  · have g53 := (eqI (x := p0) (y := (Int32.ofInt 37)) h53 : (p0 : Int32).toInt = ((Int32.ofInt 37) : Int32).toInt)
    refine hB _ _ _ _ _ (fun m54 hm54 => ?_)
    dsimp only [ucgo, ucwp, ucsC, uqC, uoC, ctC, rfd, KX11_isDivision, KX11_isDivision_0, KX11_isDivision_6, KX11_isDivision_12, KX11_isDivision_16, KX11_isDivision_17, lkC, s1C, s2C, dlC, kyC, Nat.beq, Nat.ble, rcd, rno, rsw, Nat.reduceAdd, Nat.reduceBEq, Nat.reduceDiv, List.drop, List.take, List.reverse, List.reverseAux, Int.toNat, Option.toList, List.append, List.cons_append, List.nil_append]
    have c55 : (Int32.ofInt 1).toInt = 1 := by decide
    refine hB _ _ _ _ _ (fun m56 hm56 => ?_)
    dsimp only [ucgo, ucwp, ucsC, uqC, uoC, ctC, rfd, KX11_isDivision, KX11_isDivision_0, KX11_isDivision_6, KX11_isDivision_12, KX11_isDivision_16, KX11_isDivision_17, lkC, s1C, s2C, dlC, kyC, Nat.beq, Nat.ble, rcd, rno, rsw, Nat.reduceAdd, Nat.reduceBEq, Nat.reduceDiv, List.drop, List.take, List.reverse, List.reverseAux, Int.toNat, Option.toList, List.append, List.cons_append, List.nil_append]
    try dsimp only [Qz_isDivision]
    exact ⟨_, rfl, Or.inl ⟨by omega, by omega⟩, rfl⟩
  · have g53 := (neI (x := p0) (y := (Int32.ofInt 37)) h53 : ¬ (p0 : Int32).toInt = ((Int32.ofInt 37) : Int32).toInt)
    refine hB _ _ _ _ _ (fun m57 hm57 => ?_)
    dsimp only [ucgo, ucwp, ucsC, uqC, uoC, ctC, rfd, KX11_isDivision, KX11_isDivision_0, KX11_isDivision_6, KX11_isDivision_12, KX11_isDivision_16, KX11_isDivision_17, lkC, s1C, s2C, dlC, kyC, Nat.beq, Nat.ble, rcd, rno, rsw, Nat.reduceAdd, Nat.reduceBEq, Nat.reduceDiv, List.drop, List.take, List.reverse, List.reverseAux, Int.toNat, Option.toList, List.append, List.cons_append, List.nil_append]
    have c58 : (Int32.ofInt 38).toInt = 38 := by decide
    refine ⟨fun h59 => ?_, fun h59 => ?_⟩
    · have g59 := (neI (x := p0) (y := (Int32.ofInt 38)) h59 : ¬ (p0 : Int32).toInt = ((Int32.ofInt 38) : Int32).toInt)
      refine hB _ _ _ _ _ (fun m60 hm60 => ?_)
      dsimp only [ucgo, ucwp, ucsC, uqC, uoC, ctC, rfd, KX11_isDivision, KX11_isDivision_0, KX11_isDivision_6, KX11_isDivision_12, KX11_isDivision_16, KX11_isDivision_17, lkC, s1C, s2C, dlC, kyC, Nat.beq, Nat.ble, rcd, rno, rsw, Nat.reduceAdd, Nat.reduceBEq, Nat.reduceDiv, List.drop, List.take, List.reverse, List.reverseAux, Int.toNat, Option.toList, List.append, List.cons_append, List.nil_append]
      have c61 : (Int32.ofInt 0).toInt = 0 := by decide
      refine hB _ _ _ _ _ (fun m62 hm62 => ?_)
      dsimp only [ucgo, ucwp, ucsC, uqC, uoC, ctC, rfd, KX11_isDivision, KX11_isDivision_0, KX11_isDivision_6, KX11_isDivision_12, KX11_isDivision_16, KX11_isDivision_17, lkC, s1C, s2C, dlC, kyC, Nat.beq, Nat.ble, rcd, rno, rsw, Nat.reduceAdd, Nat.reduceBEq, Nat.reduceDiv, List.drop, List.take, List.reverse, List.reverseAux, Int.toNat, Option.toList, List.append, List.cons_append, List.nil_append]
      try dsimp only [Qz_isDivision]
      exact ⟨_, rfl, Or.inr ⟨by omega, by omega⟩, rfl⟩
    · have g59 := (eqI (x := p0) (y := (Int32.ofInt 38)) h59 : (p0 : Int32).toInt = ((Int32.ofInt 38) : Int32).toInt)
      refine hB _ _ _ _ _ (fun m63 hm63 => ?_)
      dsimp only [ucgo, ucwp, ucsC, uqC, uoC, ctC, rfd, KX11_isDivision, KX11_isDivision_0, KX11_isDivision_6, KX11_isDivision_12, KX11_isDivision_16, KX11_isDivision_17, lkC, s1C, s2C, dlC, kyC, Nat.beq, Nat.ble, rcd, rno, rsw, Nat.reduceAdd, Nat.reduceBEq, Nat.reduceDiv, List.drop, List.take, List.reverse, List.reverseAux, Int.toNat, Option.toList, List.append, List.cons_append, List.nil_append]
      have c64 : (Int32.ofInt 1).toInt = 1 := by decide
      refine hB _ _ _ _ _ (fun m65 hm65 => ?_)
      dsimp only [ucgo, ucwp, ucsC, uqC, uoC, ctC, rfd, KX11_isDivision, KX11_isDivision_0, KX11_isDivision_6, KX11_isDivision_12, KX11_isDivision_16, KX11_isDivision_17, lkC, s1C, s2C, dlC, kyC, Nat.beq, Nat.ble, rcd, rno, rsw, Nat.reduceAdd, Nat.reduceBEq, Nat.reduceDiv, List.drop, List.take, List.reverse, List.reverseAux, Int.toNat, Option.toList, List.append, List.cons_append, List.nil_append]
      try dsimp only [Qz_isDivision]
      exact ⟨_, rfl, Or.inl ⟨by omega, by omega⟩, rfl⟩
theorem wz_isDivision : ∀ (L : Nat) (As : List AvC) (σ : CsC) (w : Option AvC) (τ : CsC), EvF L 227 As σ w τ → Uz_isDivision As σ w τ := by
  intro L
  cases L with
  | zero => exact fun _ _ _ _ h => h.elim
  | succ L => exact fun As σ w τ h y hy => EvF.us (cs := []) (pz_isDivision y) rfl (fun _ h => absurd h List.not_mem_nil) h hy
abbrev Pz_sameOrWidens : ((Int → Int) × (Nat → Nat) × (Nat → Nat) × (Nat → Nat) × (Nat → Nat) × ZS) → CpC := fun y As σ => match y with
  | (N, E, A, B, V, z) => ∃ (p0 : Int32) (p1 : Int32), As = [.inl p0, .inl p1]
abbrev Qz_sameOrWidens : ((Int → Int) × (Nat → Nat) × (Nat → Nat) × (Nat → Nat) × (Nat → Nat) × ZS) → CqC := fun y As σ w τ => match y, As with
  | (N, E, A, B, V, z), [.inl p0, .inl p1] => ∃ r, w = some (.inl r) ∧ ((r.toInt = 1 ∧ (wdT p0.toInt p1.toInt)) ∨ (r.toInt = 0 ∧ ¬ (wdT p0.toInt p1.toInt))) ∧ σ = τ
  | _, _ => True
abbrev Uz_sameOrWidens : CqC := fun As σ w τ => ∀ y, Pz_sameOrWidens y As σ → Qz_sameOrWidens y As σ w τ
set_option maxHeartbeats 4000000 in
theorem pz_sameOrWidens (y : (Int → Int) × (Nat → Nat) × (Nat → Nat) × (Nat → Nat) × (Nat → Nat) × ZS) : PbC KX11_sameOrWidens [] [] (fun As σ => Pz_sameOrWidens y As σ ∧ cnC σ ≤ 1000000 ∧ ∃ w τ, uqC quL 224 As σ w τ) (Qz_sameOrWidens y) := by
  obtain ⟨N, E, A, B, V, z⟩ := y
  rintro As σ ⟨⟨p0, p1, rfl⟩, hcn, _, _, hQ⟩ K hB hW n_
  change K n_ 0 [(0, .inl p0), (1, .inl p1)] [] σ
  refine hB _ _ _ _ _ (fun m51 hm51 => ?_)
  dsimp only [ucgo, ucwp, ucsC, uqC, uoC, ctC, rfd, KX11_sameOrWidens, KX11_sameOrWidens_0, KX11_sameOrWidens_5, KX11_sameOrWidens_10, KX11_sameOrWidens_14, KX11_sameOrWidens_15, KX11_sameOrWidens_21, KX11_sameOrWidens_25, KX11_sameOrWidens_30, KX11_sameOrWidens_34, KX11_sameOrWidens_39, KX11_sameOrWidens_44, KX11_sameOrWidens_48, KX11_sameOrWidens_49, lkC, s1C, s2C, dlC, kyC, Nat.beq, Nat.ble, rcd, rno, rsw, Nat.reduceAdd, Nat.reduceBEq, Nat.reduceDiv, List.drop, List.take, List.reverse, List.reverseAux, Int.toNat, Option.toList, List.append, List.cons_append, List.nil_append]
  have c52 : (Int32.ofInt 1).toInt = 1 := by decide
  refine ⟨fun h53 => ?_, fun h53 => ?_⟩
  · have g53 := (eqI (x := p0) (y := (Int32.ofInt 1)) h53 : (p0 : Int32).toInt = ((Int32.ofInt 1) : Int32).toInt)
    refine hB _ _ _ _ _ (fun m54 hm54 => ?_)
    dsimp only [ucgo, ucwp, ucsC, uqC, uoC, ctC, rfd, KX11_sameOrWidens, KX11_sameOrWidens_0, KX11_sameOrWidens_5, KX11_sameOrWidens_10, KX11_sameOrWidens_14, KX11_sameOrWidens_15, KX11_sameOrWidens_21, KX11_sameOrWidens_25, KX11_sameOrWidens_30, KX11_sameOrWidens_34, KX11_sameOrWidens_39, KX11_sameOrWidens_44, KX11_sameOrWidens_48, KX11_sameOrWidens_49, lkC, s1C, s2C, dlC, kyC, Nat.beq, Nat.ble, rcd, rno, rsw, Nat.reduceAdd, Nat.reduceBEq, Nat.reduceDiv, List.drop, List.take, List.reverse, List.reverseAux, Int.toNat, Option.toList, List.append, List.cons_append, List.nil_append]
    have c55 : (Int32.ofInt 1).toInt = 1 := by decide
    refine hB _ _ _ _ _ (fun m56 hm56 => ?_)
    dsimp only [ucgo, ucwp, ucsC, uqC, uoC, ctC, rfd, KX11_sameOrWidens, KX11_sameOrWidens_0, KX11_sameOrWidens_5, KX11_sameOrWidens_10, KX11_sameOrWidens_14, KX11_sameOrWidens_15, KX11_sameOrWidens_21, KX11_sameOrWidens_25, KX11_sameOrWidens_30, KX11_sameOrWidens_34, KX11_sameOrWidens_39, KX11_sameOrWidens_44, KX11_sameOrWidens_48, KX11_sameOrWidens_49, lkC, s1C, s2C, dlC, kyC, Nat.beq, Nat.ble, rcd, rno, rsw, Nat.reduceAdd, Nat.reduceBEq, Nat.reduceDiv, List.drop, List.take, List.reverse, List.reverseAux, Int.toNat, Option.toList, List.append, List.cons_append, List.nil_append]
    refine ⟨fun h57 => ?_, fun h57 => ?_⟩
    · have g57 := (eqI (x := p0) (y := p1) h57 : (p0 : Int32).toInt = (p1 : Int32).toInt)
      refine hB _ _ _ _ _ (fun m58 hm58 => ?_)
      dsimp only [ucgo, ucwp, ucsC, uqC, uoC, ctC, rfd, KX11_sameOrWidens, KX11_sameOrWidens_0, KX11_sameOrWidens_5, KX11_sameOrWidens_10, KX11_sameOrWidens_14, KX11_sameOrWidens_15, KX11_sameOrWidens_21, KX11_sameOrWidens_25, KX11_sameOrWidens_30, KX11_sameOrWidens_34, KX11_sameOrWidens_39, KX11_sameOrWidens_44, KX11_sameOrWidens_48, KX11_sameOrWidens_49, lkC, s1C, s2C, dlC, kyC, Nat.beq, Nat.ble, rcd, rno, rsw, Nat.reduceAdd, Nat.reduceBEq, Nat.reduceDiv, List.drop, List.take, List.reverse, List.reverseAux, Int.toNat, Option.toList, List.append, List.cons_append, List.nil_append]
      have c59 : (Int32.ofInt 1).toInt = 1 := by decide
      refine hB _ _ _ _ _ (fun m60 hm60 => ?_)
      dsimp only [ucgo, ucwp, ucsC, uqC, uoC, ctC, rfd, KX11_sameOrWidens, KX11_sameOrWidens_0, KX11_sameOrWidens_5, KX11_sameOrWidens_10, KX11_sameOrWidens_14, KX11_sameOrWidens_15, KX11_sameOrWidens_21, KX11_sameOrWidens_25, KX11_sameOrWidens_30, KX11_sameOrWidens_34, KX11_sameOrWidens_39, KX11_sameOrWidens_44, KX11_sameOrWidens_48, KX11_sameOrWidens_49, lkC, s1C, s2C, dlC, kyC, Nat.beq, Nat.ble, rcd, rno, rsw, Nat.reduceAdd, Nat.reduceBEq, Nat.reduceDiv, List.drop, List.take, List.reverse, List.reverseAux, Int.toNat, Option.toList, List.append, List.cons_append, List.nil_append]
      try dsimp only [Qz_sameOrWidens]
      exact ⟨_, rfl, Or.inl ⟨by omega, by unfold wdT smT; omega⟩, rfl⟩
    · have g57 := (neI (x := p0) (y := p1) h57 : ¬ (p0 : Int32).toInt = (p1 : Int32).toInt)
      refine hB _ _ _ _ _ (fun m61 hm61 => ?_)
      dsimp only [ucgo, ucwp, ucsC, uqC, uoC, ctC, rfd, KX11_sameOrWidens, KX11_sameOrWidens_0, KX11_sameOrWidens_5, KX11_sameOrWidens_10, KX11_sameOrWidens_14, KX11_sameOrWidens_15, KX11_sameOrWidens_21, KX11_sameOrWidens_25, KX11_sameOrWidens_30, KX11_sameOrWidens_34, KX11_sameOrWidens_39, KX11_sameOrWidens_44, KX11_sameOrWidens_48, KX11_sameOrWidens_49, lkC, s1C, s2C, dlC, kyC, Nat.beq, Nat.ble, rcd, rno, rsw, Nat.reduceAdd, Nat.reduceBEq, Nat.reduceDiv, List.drop, List.take, List.reverse, List.reverseAux, Int.toNat, Option.toList, List.append, List.cons_append, List.nil_append]
      refine ⟨fun h62 => ?_, fun h62 => ?_⟩
      · exact absurd h62 (by decide)
      · have g62 := (neI (x := (Int32.ofInt 1)) (y := 0) h62 : ¬ ((Int32.ofInt 1) : Int32).toInt = (0 : Int32).toInt)
        have z0_ : (0 : Int32).toInt = 0 := rfl
        refine hB _ _ _ _ _ (fun m63 hm63 => ?_)
        dsimp only [ucgo, ucwp, ucsC, uqC, uoC, ctC, rfd, KX11_sameOrWidens, KX11_sameOrWidens_0, KX11_sameOrWidens_5, KX11_sameOrWidens_10, KX11_sameOrWidens_14, KX11_sameOrWidens_15, KX11_sameOrWidens_21, KX11_sameOrWidens_25, KX11_sameOrWidens_30, KX11_sameOrWidens_34, KX11_sameOrWidens_39, KX11_sameOrWidens_44, KX11_sameOrWidens_48, KX11_sameOrWidens_49, lkC, s1C, s2C, dlC, kyC, Nat.beq, Nat.ble, rcd, rno, rsw, Nat.reduceAdd, Nat.reduceBEq, Nat.reduceDiv, List.drop, List.take, List.reverse, List.reverseAux, Int.toNat, Option.toList, List.append, List.cons_append, List.nil_append]
        have c64 : (Int32.ofInt 3).toInt = 3 := by decide
        refine ⟨fun h65 => ?_, fun h65 => ?_⟩
        · have g65 := (eqI (x := p1) (y := (Int32.ofInt 3)) h65 : (p1 : Int32).toInt = ((Int32.ofInt 3) : Int32).toInt)
          refine hB _ _ _ _ _ (fun m66 hm66 => ?_)
          dsimp only [ucgo, ucwp, ucsC, uqC, uoC, ctC, rfd, KX11_sameOrWidens, KX11_sameOrWidens_0, KX11_sameOrWidens_5, KX11_sameOrWidens_10, KX11_sameOrWidens_14, KX11_sameOrWidens_15, KX11_sameOrWidens_21, KX11_sameOrWidens_25, KX11_sameOrWidens_30, KX11_sameOrWidens_34, KX11_sameOrWidens_39, KX11_sameOrWidens_44, KX11_sameOrWidens_48, KX11_sameOrWidens_49, lkC, s1C, s2C, dlC, kyC, Nat.beq, Nat.ble, rcd, rno, rsw, Nat.reduceAdd, Nat.reduceBEq, Nat.reduceDiv, List.drop, List.take, List.reverse, List.reverseAux, Int.toNat, Option.toList, List.append, List.cons_append, List.nil_append]
          have c67 : (Int32.ofInt 1).toInt = 1 := by decide
          refine hB _ _ _ _ _ (fun m68 hm68 => ?_)
          dsimp only [ucgo, ucwp, ucsC, uqC, uoC, ctC, rfd, KX11_sameOrWidens, KX11_sameOrWidens_0, KX11_sameOrWidens_5, KX11_sameOrWidens_10, KX11_sameOrWidens_14, KX11_sameOrWidens_15, KX11_sameOrWidens_21, KX11_sameOrWidens_25, KX11_sameOrWidens_30, KX11_sameOrWidens_34, KX11_sameOrWidens_39, KX11_sameOrWidens_44, KX11_sameOrWidens_48, KX11_sameOrWidens_49, lkC, s1C, s2C, dlC, kyC, Nat.beq, Nat.ble, rcd, rno, rsw, Nat.reduceAdd, Nat.reduceBEq, Nat.reduceDiv, List.drop, List.take, List.reverse, List.reverseAux, Int.toNat, Option.toList, List.append, List.cons_append, List.nil_append]
          try dsimp only [Qz_sameOrWidens]
          exact ⟨_, rfl, Or.inl ⟨by omega, by unfold wdT smT; omega⟩, rfl⟩
        · have g65 := (neI (x := p1) (y := (Int32.ofInt 3)) h65 : ¬ (p1 : Int32).toInt = ((Int32.ofInt 3) : Int32).toInt)
          refine hB _ _ _ _ _ (fun m69 hm69 => ?_)
          dsimp only [ucgo, ucwp, ucsC, uqC, uoC, ctC, rfd, KX11_sameOrWidens, KX11_sameOrWidens_0, KX11_sameOrWidens_5, KX11_sameOrWidens_10, KX11_sameOrWidens_14, KX11_sameOrWidens_15, KX11_sameOrWidens_21, KX11_sameOrWidens_25, KX11_sameOrWidens_30, KX11_sameOrWidens_34, KX11_sameOrWidens_39, KX11_sameOrWidens_44, KX11_sameOrWidens_48, KX11_sameOrWidens_49, lkC, s1C, s2C, dlC, kyC, Nat.beq, Nat.ble, rcd, rno, rsw, Nat.reduceAdd, Nat.reduceBEq, Nat.reduceDiv, List.drop, List.take, List.reverse, List.reverseAux, Int.toNat, Option.toList, List.append, List.cons_append, List.nil_append]
          refine ⟨fun h70 => ?_, fun h70 => ?_⟩
          · have g70 := (neI (x := (Int32.ofInt 1)) (y := 0) h70 : ¬ ((Int32.ofInt 1) : Int32).toInt = (0 : Int32).toInt)
            have z0_ : (0 : Int32).toInt = 0 := rfl
            refine hB _ _ _ _ _ (fun m71 hm71 => ?_)
            dsimp only [ucgo, ucwp, ucsC, uqC, uoC, ctC, rfd, KX11_sameOrWidens, KX11_sameOrWidens_0, KX11_sameOrWidens_5, KX11_sameOrWidens_10, KX11_sameOrWidens_14, KX11_sameOrWidens_15, KX11_sameOrWidens_21, KX11_sameOrWidens_25, KX11_sameOrWidens_30, KX11_sameOrWidens_34, KX11_sameOrWidens_39, KX11_sameOrWidens_44, KX11_sameOrWidens_48, KX11_sameOrWidens_49, lkC, s1C, s2C, dlC, kyC, Nat.beq, Nat.ble, rcd, rno, rsw, Nat.reduceAdd, Nat.reduceBEq, Nat.reduceDiv, List.drop, List.take, List.reverse, List.reverseAux, Int.toNat, Option.toList, List.append, List.cons_append, List.nil_append]
            have c72 : (Int32.ofInt 4).toInt = 4 := by decide
            refine ⟨fun h73 => ?_, fun h73 => ?_⟩
            · have g73 := (neI (x := p1) (y := (Int32.ofInt 4)) h73 : ¬ (p1 : Int32).toInt = ((Int32.ofInt 4) : Int32).toInt)
              refine hB _ _ _ _ _ (fun m74 hm74 => ?_)
              dsimp only [ucgo, ucwp, ucsC, uqC, uoC, ctC, rfd, KX11_sameOrWidens, KX11_sameOrWidens_0, KX11_sameOrWidens_5, KX11_sameOrWidens_10, KX11_sameOrWidens_14, KX11_sameOrWidens_15, KX11_sameOrWidens_21, KX11_sameOrWidens_25, KX11_sameOrWidens_30, KX11_sameOrWidens_34, KX11_sameOrWidens_39, KX11_sameOrWidens_44, KX11_sameOrWidens_48, KX11_sameOrWidens_49, lkC, s1C, s2C, dlC, kyC, Nat.beq, Nat.ble, rcd, rno, rsw, Nat.reduceAdd, Nat.reduceBEq, Nat.reduceDiv, List.drop, List.take, List.reverse, List.reverseAux, Int.toNat, Option.toList, List.append, List.cons_append, List.nil_append]
              have c75 : (Int32.ofInt 0).toInt = 0 := by decide
              refine hB _ _ _ _ _ (fun m76 hm76 => ?_)
              dsimp only [ucgo, ucwp, ucsC, uqC, uoC, ctC, rfd, KX11_sameOrWidens, KX11_sameOrWidens_0, KX11_sameOrWidens_5, KX11_sameOrWidens_10, KX11_sameOrWidens_14, KX11_sameOrWidens_15, KX11_sameOrWidens_21, KX11_sameOrWidens_25, KX11_sameOrWidens_30, KX11_sameOrWidens_34, KX11_sameOrWidens_39, KX11_sameOrWidens_44, KX11_sameOrWidens_48, KX11_sameOrWidens_49, lkC, s1C, s2C, dlC, kyC, Nat.beq, Nat.ble, rcd, rno, rsw, Nat.reduceAdd, Nat.reduceBEq, Nat.reduceDiv, List.drop, List.take, List.reverse, List.reverseAux, Int.toNat, Option.toList, List.append, List.cons_append, List.nil_append]
              try dsimp only [Qz_sameOrWidens]
              exact ⟨_, rfl, Or.inr ⟨by omega, by unfold wdT smT; omega⟩, rfl⟩
            · have g73 := (eqI (x := p1) (y := (Int32.ofInt 4)) h73 : (p1 : Int32).toInt = ((Int32.ofInt 4) : Int32).toInt)
              refine hB _ _ _ _ _ (fun m77 hm77 => ?_)
              dsimp only [ucgo, ucwp, ucsC, uqC, uoC, ctC, rfd, KX11_sameOrWidens, KX11_sameOrWidens_0, KX11_sameOrWidens_5, KX11_sameOrWidens_10, KX11_sameOrWidens_14, KX11_sameOrWidens_15, KX11_sameOrWidens_21, KX11_sameOrWidens_25, KX11_sameOrWidens_30, KX11_sameOrWidens_34, KX11_sameOrWidens_39, KX11_sameOrWidens_44, KX11_sameOrWidens_48, KX11_sameOrWidens_49, lkC, s1C, s2C, dlC, kyC, Nat.beq, Nat.ble, rcd, rno, rsw, Nat.reduceAdd, Nat.reduceBEq, Nat.reduceDiv, List.drop, List.take, List.reverse, List.reverseAux, Int.toNat, Option.toList, List.append, List.cons_append, List.nil_append]
              have c78 : (Int32.ofInt 1).toInt = 1 := by decide
              refine hB _ _ _ _ _ (fun m79 hm79 => ?_)
              dsimp only [ucgo, ucwp, ucsC, uqC, uoC, ctC, rfd, KX11_sameOrWidens, KX11_sameOrWidens_0, KX11_sameOrWidens_5, KX11_sameOrWidens_10, KX11_sameOrWidens_14, KX11_sameOrWidens_15, KX11_sameOrWidens_21, KX11_sameOrWidens_25, KX11_sameOrWidens_30, KX11_sameOrWidens_34, KX11_sameOrWidens_39, KX11_sameOrWidens_44, KX11_sameOrWidens_48, KX11_sameOrWidens_49, lkC, s1C, s2C, dlC, kyC, Nat.beq, Nat.ble, rcd, rno, rsw, Nat.reduceAdd, Nat.reduceBEq, Nat.reduceDiv, List.drop, List.take, List.reverse, List.reverseAux, Int.toNat, Option.toList, List.append, List.cons_append, List.nil_append]
              try dsimp only [Qz_sameOrWidens]
              exact ⟨_, rfl, Or.inl ⟨by omega, by unfold wdT smT; omega⟩, rfl⟩
          · exact absurd h70 (by decide)
  · have g53 := (neI (x := p0) (y := (Int32.ofInt 1)) h53 : ¬ (p0 : Int32).toInt = ((Int32.ofInt 1) : Int32).toInt)
    refine hB _ _ _ _ _ (fun m80 hm80 => ?_)
    dsimp only [ucgo, ucwp, ucsC, uqC, uoC, ctC, rfd, KX11_sameOrWidens, KX11_sameOrWidens_0, KX11_sameOrWidens_5, KX11_sameOrWidens_10, KX11_sameOrWidens_14, KX11_sameOrWidens_15, KX11_sameOrWidens_21, KX11_sameOrWidens_25, KX11_sameOrWidens_30, KX11_sameOrWidens_34, KX11_sameOrWidens_39, KX11_sameOrWidens_44, KX11_sameOrWidens_48, KX11_sameOrWidens_49, lkC, s1C, s2C, dlC, kyC, Nat.beq, Nat.ble, rcd, rno, rsw, Nat.reduceAdd, Nat.reduceBEq, Nat.reduceDiv, List.drop, List.take, List.reverse, List.reverseAux, Int.toNat, Option.toList, List.append, List.cons_append, List.nil_append]
    have c81 : (Int32.ofInt 2).toInt = 2 := by decide
    refine ⟨fun h82 => ?_, fun h82 => ?_⟩
    · have g82 := (neI (x := p0) (y := (Int32.ofInt 2)) h82 : ¬ (p0 : Int32).toInt = ((Int32.ofInt 2) : Int32).toInt)
      refine hB _ _ _ _ _ (fun m83 hm83 => ?_)
      dsimp only [ucgo, ucwp, ucsC, uqC, uoC, ctC, rfd, KX11_sameOrWidens, KX11_sameOrWidens_0, KX11_sameOrWidens_5, KX11_sameOrWidens_10, KX11_sameOrWidens_14, KX11_sameOrWidens_15, KX11_sameOrWidens_21, KX11_sameOrWidens_25, KX11_sameOrWidens_30, KX11_sameOrWidens_34, KX11_sameOrWidens_39, KX11_sameOrWidens_44, KX11_sameOrWidens_48, KX11_sameOrWidens_49, lkC, s1C, s2C, dlC, kyC, Nat.beq, Nat.ble, rcd, rno, rsw, Nat.reduceAdd, Nat.reduceBEq, Nat.reduceDiv, List.drop, List.take, List.reverse, List.reverseAux, Int.toNat, Option.toList, List.append, List.cons_append, List.nil_append]
      have c84 : (Int32.ofInt 0).toInt = 0 := by decide
      refine hB _ _ _ _ _ (fun m85 hm85 => ?_)
      dsimp only [ucgo, ucwp, ucsC, uqC, uoC, ctC, rfd, KX11_sameOrWidens, KX11_sameOrWidens_0, KX11_sameOrWidens_5, KX11_sameOrWidens_10, KX11_sameOrWidens_14, KX11_sameOrWidens_15, KX11_sameOrWidens_21, KX11_sameOrWidens_25, KX11_sameOrWidens_30, KX11_sameOrWidens_34, KX11_sameOrWidens_39, KX11_sameOrWidens_44, KX11_sameOrWidens_48, KX11_sameOrWidens_49, lkC, s1C, s2C, dlC, kyC, Nat.beq, Nat.ble, rcd, rno, rsw, Nat.reduceAdd, Nat.reduceBEq, Nat.reduceDiv, List.drop, List.take, List.reverse, List.reverseAux, Int.toNat, Option.toList, List.append, List.cons_append, List.nil_append]
      refine ⟨fun h86 => ?_, fun h86 => ?_⟩
      · have g86 := (eqI (x := p0) (y := p1) h86 : (p0 : Int32).toInt = (p1 : Int32).toInt)
        refine hB _ _ _ _ _ (fun m87 hm87 => ?_)
        dsimp only [ucgo, ucwp, ucsC, uqC, uoC, ctC, rfd, KX11_sameOrWidens, KX11_sameOrWidens_0, KX11_sameOrWidens_5, KX11_sameOrWidens_10, KX11_sameOrWidens_14, KX11_sameOrWidens_15, KX11_sameOrWidens_21, KX11_sameOrWidens_25, KX11_sameOrWidens_30, KX11_sameOrWidens_34, KX11_sameOrWidens_39, KX11_sameOrWidens_44, KX11_sameOrWidens_48, KX11_sameOrWidens_49, lkC, s1C, s2C, dlC, kyC, Nat.beq, Nat.ble, rcd, rno, rsw, Nat.reduceAdd, Nat.reduceBEq, Nat.reduceDiv, List.drop, List.take, List.reverse, List.reverseAux, Int.toNat, Option.toList, List.append, List.cons_append, List.nil_append]
        have c88 : (Int32.ofInt 1).toInt = 1 := by decide
        refine hB _ _ _ _ _ (fun m89 hm89 => ?_)
        dsimp only [ucgo, ucwp, ucsC, uqC, uoC, ctC, rfd, KX11_sameOrWidens, KX11_sameOrWidens_0, KX11_sameOrWidens_5, KX11_sameOrWidens_10, KX11_sameOrWidens_14, KX11_sameOrWidens_15, KX11_sameOrWidens_21, KX11_sameOrWidens_25, KX11_sameOrWidens_30, KX11_sameOrWidens_34, KX11_sameOrWidens_39, KX11_sameOrWidens_44, KX11_sameOrWidens_48, KX11_sameOrWidens_49, lkC, s1C, s2C, dlC, kyC, Nat.beq, Nat.ble, rcd, rno, rsw, Nat.reduceAdd, Nat.reduceBEq, Nat.reduceDiv, List.drop, List.take, List.reverse, List.reverseAux, Int.toNat, Option.toList, List.append, List.cons_append, List.nil_append]
        try dsimp only [Qz_sameOrWidens]
        exact ⟨_, rfl, Or.inl ⟨by omega, by unfold wdT smT; omega⟩, rfl⟩
      · have g86 := (neI (x := p0) (y := p1) h86 : ¬ (p0 : Int32).toInt = (p1 : Int32).toInt)
        refine hB _ _ _ _ _ (fun m90 hm90 => ?_)
        dsimp only [ucgo, ucwp, ucsC, uqC, uoC, ctC, rfd, KX11_sameOrWidens, KX11_sameOrWidens_0, KX11_sameOrWidens_5, KX11_sameOrWidens_10, KX11_sameOrWidens_14, KX11_sameOrWidens_15, KX11_sameOrWidens_21, KX11_sameOrWidens_25, KX11_sameOrWidens_30, KX11_sameOrWidens_34, KX11_sameOrWidens_39, KX11_sameOrWidens_44, KX11_sameOrWidens_48, KX11_sameOrWidens_49, lkC, s1C, s2C, dlC, kyC, Nat.beq, Nat.ble, rcd, rno, rsw, Nat.reduceAdd, Nat.reduceBEq, Nat.reduceDiv, List.drop, List.take, List.reverse, List.reverseAux, Int.toNat, Option.toList, List.append, List.cons_append, List.nil_append]
        refine ⟨fun h91 => ?_, fun h91 => ?_⟩
        · have g91 := (eqI (x := (Int32.ofInt 0)) (y := 0) h91 : ((Int32.ofInt 0) : Int32).toInt = (0 : Int32).toInt)
          have z0_ : (0 : Int32).toInt = 0 := rfl
          refine hB _ _ _ _ _ (fun m92 hm92 => ?_)
          dsimp only [ucgo, ucwp, ucsC, uqC, uoC, ctC, rfd, KX11_sameOrWidens, KX11_sameOrWidens_0, KX11_sameOrWidens_5, KX11_sameOrWidens_10, KX11_sameOrWidens_14, KX11_sameOrWidens_15, KX11_sameOrWidens_21, KX11_sameOrWidens_25, KX11_sameOrWidens_30, KX11_sameOrWidens_34, KX11_sameOrWidens_39, KX11_sameOrWidens_44, KX11_sameOrWidens_48, KX11_sameOrWidens_49, lkC, s1C, s2C, dlC, kyC, Nat.beq, Nat.ble, rcd, rno, rsw, Nat.reduceAdd, Nat.reduceBEq, Nat.reduceDiv, List.drop, List.take, List.reverse, List.reverseAux, Int.toNat, Option.toList, List.append, List.cons_append, List.nil_append]
          refine ⟨fun h93 => ?_, fun h93 => ?_⟩
          · exact absurd h93 (by decide)
          · have g93 := (eqI (x := (Int32.ofInt 0)) (y := 0) h93 : ((Int32.ofInt 0) : Int32).toInt = (0 : Int32).toInt)
            have z0_ : (0 : Int32).toInt = 0 := rfl
            refine hB _ _ _ _ _ (fun m94 hm94 => ?_)
            dsimp only [ucgo, ucwp, ucsC, uqC, uoC, ctC, rfd, KX11_sameOrWidens, KX11_sameOrWidens_0, KX11_sameOrWidens_5, KX11_sameOrWidens_10, KX11_sameOrWidens_14, KX11_sameOrWidens_15, KX11_sameOrWidens_21, KX11_sameOrWidens_25, KX11_sameOrWidens_30, KX11_sameOrWidens_34, KX11_sameOrWidens_39, KX11_sameOrWidens_44, KX11_sameOrWidens_48, KX11_sameOrWidens_49, lkC, s1C, s2C, dlC, kyC, Nat.beq, Nat.ble, rcd, rno, rsw, Nat.reduceAdd, Nat.reduceBEq, Nat.reduceDiv, List.drop, List.take, List.reverse, List.reverseAux, Int.toNat, Option.toList, List.append, List.cons_append, List.nil_append]
            have c95 : (Int32.ofInt 3).toInt = 3 := by decide
            refine ⟨fun h96 => ?_, fun h96 => ?_⟩
            · have g96 := (neI (x := p0) (y := (Int32.ofInt 3)) h96 : ¬ (p0 : Int32).toInt = ((Int32.ofInt 3) : Int32).toInt)
              refine hB _ _ _ _ _ (fun m97 hm97 => ?_)
              dsimp only [ucgo, ucwp, ucsC, uqC, uoC, ctC, rfd, KX11_sameOrWidens, KX11_sameOrWidens_0, KX11_sameOrWidens_5, KX11_sameOrWidens_10, KX11_sameOrWidens_14, KX11_sameOrWidens_15, KX11_sameOrWidens_21, KX11_sameOrWidens_25, KX11_sameOrWidens_30, KX11_sameOrWidens_34, KX11_sameOrWidens_39, KX11_sameOrWidens_44, KX11_sameOrWidens_48, KX11_sameOrWidens_49, lkC, s1C, s2C, dlC, kyC, Nat.beq, Nat.ble, rcd, rno, rsw, Nat.reduceAdd, Nat.reduceBEq, Nat.reduceDiv, List.drop, List.take, List.reverse, List.reverseAux, Int.toNat, Option.toList, List.append, List.cons_append, List.nil_append]
              have c98 : (Int32.ofInt 0).toInt = 0 := by decide
              refine hB _ _ _ _ _ (fun m99 hm99 => ?_)
              dsimp only [ucgo, ucwp, ucsC, uqC, uoC, ctC, rfd, KX11_sameOrWidens, KX11_sameOrWidens_0, KX11_sameOrWidens_5, KX11_sameOrWidens_10, KX11_sameOrWidens_14, KX11_sameOrWidens_15, KX11_sameOrWidens_21, KX11_sameOrWidens_25, KX11_sameOrWidens_30, KX11_sameOrWidens_34, KX11_sameOrWidens_39, KX11_sameOrWidens_44, KX11_sameOrWidens_48, KX11_sameOrWidens_49, lkC, s1C, s2C, dlC, kyC, Nat.beq, Nat.ble, rcd, rno, rsw, Nat.reduceAdd, Nat.reduceBEq, Nat.reduceDiv, List.drop, List.take, List.reverse, List.reverseAux, Int.toNat, Option.toList, List.append, List.cons_append, List.nil_append]
              try dsimp only [Qz_sameOrWidens]
              exact ⟨_, rfl, Or.inr ⟨by omega, by unfold wdT smT; omega⟩, rfl⟩
            · have g96 := (eqI (x := p0) (y := (Int32.ofInt 3)) h96 : (p0 : Int32).toInt = ((Int32.ofInt 3) : Int32).toInt)
              refine hB _ _ _ _ _ (fun m100 hm100 => ?_)
              dsimp only [ucgo, ucwp, ucsC, uqC, uoC, ctC, rfd, KX11_sameOrWidens, KX11_sameOrWidens_0, KX11_sameOrWidens_5, KX11_sameOrWidens_10, KX11_sameOrWidens_14, KX11_sameOrWidens_15, KX11_sameOrWidens_21, KX11_sameOrWidens_25, KX11_sameOrWidens_30, KX11_sameOrWidens_34, KX11_sameOrWidens_39, KX11_sameOrWidens_44, KX11_sameOrWidens_48, KX11_sameOrWidens_49, lkC, s1C, s2C, dlC, kyC, Nat.beq, Nat.ble, rcd, rno, rsw, Nat.reduceAdd, Nat.reduceBEq, Nat.reduceDiv, List.drop, List.take, List.reverse, List.reverseAux, Int.toNat, Option.toList, List.append, List.cons_append, List.nil_append]
              have c101 : (Int32.ofInt 4).toInt = 4 := by decide
              refine ⟨fun h102 => ?_, fun h102 => ?_⟩
              · have g102 := (neI (x := p1) (y := (Int32.ofInt 4)) h102 : ¬ (p1 : Int32).toInt = ((Int32.ofInt 4) : Int32).toInt)
                refine hB _ _ _ _ _ (fun m103 hm103 => ?_)
                dsimp only [ucgo, ucwp, ucsC, uqC, uoC, ctC, rfd, KX11_sameOrWidens, KX11_sameOrWidens_0, KX11_sameOrWidens_5, KX11_sameOrWidens_10, KX11_sameOrWidens_14, KX11_sameOrWidens_15, KX11_sameOrWidens_21, KX11_sameOrWidens_25, KX11_sameOrWidens_30, KX11_sameOrWidens_34, KX11_sameOrWidens_39, KX11_sameOrWidens_44, KX11_sameOrWidens_48, KX11_sameOrWidens_49, lkC, s1C, s2C, dlC, kyC, Nat.beq, Nat.ble, rcd, rno, rsw, Nat.reduceAdd, Nat.reduceBEq, Nat.reduceDiv, List.drop, List.take, List.reverse, List.reverseAux, Int.toNat, Option.toList, List.append, List.cons_append, List.nil_append]
                have c104 : (Int32.ofInt 0).toInt = 0 := by decide
                refine hB _ _ _ _ _ (fun m105 hm105 => ?_)
                dsimp only [ucgo, ucwp, ucsC, uqC, uoC, ctC, rfd, KX11_sameOrWidens, KX11_sameOrWidens_0, KX11_sameOrWidens_5, KX11_sameOrWidens_10, KX11_sameOrWidens_14, KX11_sameOrWidens_15, KX11_sameOrWidens_21, KX11_sameOrWidens_25, KX11_sameOrWidens_30, KX11_sameOrWidens_34, KX11_sameOrWidens_39, KX11_sameOrWidens_44, KX11_sameOrWidens_48, KX11_sameOrWidens_49, lkC, s1C, s2C, dlC, kyC, Nat.beq, Nat.ble, rcd, rno, rsw, Nat.reduceAdd, Nat.reduceBEq, Nat.reduceDiv, List.drop, List.take, List.reverse, List.reverseAux, Int.toNat, Option.toList, List.append, List.cons_append, List.nil_append]
                try dsimp only [Qz_sameOrWidens]
                exact ⟨_, rfl, Or.inr ⟨by omega, by unfold wdT smT; omega⟩, rfl⟩
              · have g102 := (eqI (x := p1) (y := (Int32.ofInt 4)) h102 : (p1 : Int32).toInt = ((Int32.ofInt 4) : Int32).toInt)
                refine hB _ _ _ _ _ (fun m106 hm106 => ?_)
                dsimp only [ucgo, ucwp, ucsC, uqC, uoC, ctC, rfd, KX11_sameOrWidens, KX11_sameOrWidens_0, KX11_sameOrWidens_5, KX11_sameOrWidens_10, KX11_sameOrWidens_14, KX11_sameOrWidens_15, KX11_sameOrWidens_21, KX11_sameOrWidens_25, KX11_sameOrWidens_30, KX11_sameOrWidens_34, KX11_sameOrWidens_39, KX11_sameOrWidens_44, KX11_sameOrWidens_48, KX11_sameOrWidens_49, lkC, s1C, s2C, dlC, kyC, Nat.beq, Nat.ble, rcd, rno, rsw, Nat.reduceAdd, Nat.reduceBEq, Nat.reduceDiv, List.drop, List.take, List.reverse, List.reverseAux, Int.toNat, Option.toList, List.append, List.cons_append, List.nil_append]
                have c107 : (Int32.ofInt 1).toInt = 1 := by decide
                refine hB _ _ _ _ _ (fun m108 hm108 => ?_)
                dsimp only [ucgo, ucwp, ucsC, uqC, uoC, ctC, rfd, KX11_sameOrWidens, KX11_sameOrWidens_0, KX11_sameOrWidens_5, KX11_sameOrWidens_10, KX11_sameOrWidens_14, KX11_sameOrWidens_15, KX11_sameOrWidens_21, KX11_sameOrWidens_25, KX11_sameOrWidens_30, KX11_sameOrWidens_34, KX11_sameOrWidens_39, KX11_sameOrWidens_44, KX11_sameOrWidens_48, KX11_sameOrWidens_49, lkC, s1C, s2C, dlC, kyC, Nat.beq, Nat.ble, rcd, rno, rsw, Nat.reduceAdd, Nat.reduceBEq, Nat.reduceDiv, List.drop, List.take, List.reverse, List.reverseAux, Int.toNat, Option.toList, List.append, List.cons_append, List.nil_append]
                try dsimp only [Qz_sameOrWidens]
                exact ⟨_, rfl, Or.inl ⟨by omega, by unfold wdT smT; omega⟩, rfl⟩
        · exact absurd h91 (by decide)
    · have g82 := (eqI (x := p0) (y := (Int32.ofInt 2)) h82 : (p0 : Int32).toInt = ((Int32.ofInt 2) : Int32).toInt)
      refine hB _ _ _ _ _ (fun m109 hm109 => ?_)
      dsimp only [ucgo, ucwp, ucsC, uqC, uoC, ctC, rfd, KX11_sameOrWidens, KX11_sameOrWidens_0, KX11_sameOrWidens_5, KX11_sameOrWidens_10, KX11_sameOrWidens_14, KX11_sameOrWidens_15, KX11_sameOrWidens_21, KX11_sameOrWidens_25, KX11_sameOrWidens_30, KX11_sameOrWidens_34, KX11_sameOrWidens_39, KX11_sameOrWidens_44, KX11_sameOrWidens_48, KX11_sameOrWidens_49, lkC, s1C, s2C, dlC, kyC, Nat.beq, Nat.ble, rcd, rno, rsw, Nat.reduceAdd, Nat.reduceBEq, Nat.reduceDiv, List.drop, List.take, List.reverse, List.reverseAux, Int.toNat, Option.toList, List.append, List.cons_append, List.nil_append]
      have c110 : (Int32.ofInt 1).toInt = 1 := by decide
      refine hB _ _ _ _ _ (fun m111 hm111 => ?_)
      dsimp only [ucgo, ucwp, ucsC, uqC, uoC, ctC, rfd, KX11_sameOrWidens, KX11_sameOrWidens_0, KX11_sameOrWidens_5, KX11_sameOrWidens_10, KX11_sameOrWidens_14, KX11_sameOrWidens_15, KX11_sameOrWidens_21, KX11_sameOrWidens_25, KX11_sameOrWidens_30, KX11_sameOrWidens_34, KX11_sameOrWidens_39, KX11_sameOrWidens_44, KX11_sameOrWidens_48, KX11_sameOrWidens_49, lkC, s1C, s2C, dlC, kyC, Nat.beq, Nat.ble, rcd, rno, rsw, Nat.reduceAdd, Nat.reduceBEq, Nat.reduceDiv, List.drop, List.take, List.reverse, List.reverseAux, Int.toNat, Option.toList, List.append, List.cons_append, List.nil_append]
      refine ⟨fun h112 => ?_, fun h112 => ?_⟩
      · have g112 := (eqI (x := p0) (y := p1) h112 : (p0 : Int32).toInt = (p1 : Int32).toInt)
        refine hB _ _ _ _ _ (fun m113 hm113 => ?_)
        dsimp only [ucgo, ucwp, ucsC, uqC, uoC, ctC, rfd, KX11_sameOrWidens, KX11_sameOrWidens_0, KX11_sameOrWidens_5, KX11_sameOrWidens_10, KX11_sameOrWidens_14, KX11_sameOrWidens_15, KX11_sameOrWidens_21, KX11_sameOrWidens_25, KX11_sameOrWidens_30, KX11_sameOrWidens_34, KX11_sameOrWidens_39, KX11_sameOrWidens_44, KX11_sameOrWidens_48, KX11_sameOrWidens_49, lkC, s1C, s2C, dlC, kyC, Nat.beq, Nat.ble, rcd, rno, rsw, Nat.reduceAdd, Nat.reduceBEq, Nat.reduceDiv, List.drop, List.take, List.reverse, List.reverseAux, Int.toNat, Option.toList, List.append, List.cons_append, List.nil_append]
        have c114 : (Int32.ofInt 1).toInt = 1 := by decide
        refine hB _ _ _ _ _ (fun m115 hm115 => ?_)
        dsimp only [ucgo, ucwp, ucsC, uqC, uoC, ctC, rfd, KX11_sameOrWidens, KX11_sameOrWidens_0, KX11_sameOrWidens_5, KX11_sameOrWidens_10, KX11_sameOrWidens_14, KX11_sameOrWidens_15, KX11_sameOrWidens_21, KX11_sameOrWidens_25, KX11_sameOrWidens_30, KX11_sameOrWidens_34, KX11_sameOrWidens_39, KX11_sameOrWidens_44, KX11_sameOrWidens_48, KX11_sameOrWidens_49, lkC, s1C, s2C, dlC, kyC, Nat.beq, Nat.ble, rcd, rno, rsw, Nat.reduceAdd, Nat.reduceBEq, Nat.reduceDiv, List.drop, List.take, List.reverse, List.reverseAux, Int.toNat, Option.toList, List.append, List.cons_append, List.nil_append]
        try dsimp only [Qz_sameOrWidens]
        exact ⟨_, rfl, Or.inl ⟨by omega, by unfold wdT smT; omega⟩, rfl⟩
      · have g112 := (neI (x := p0) (y := p1) h112 : ¬ (p0 : Int32).toInt = (p1 : Int32).toInt)
        refine hB _ _ _ _ _ (fun m116 hm116 => ?_)
        dsimp only [ucgo, ucwp, ucsC, uqC, uoC, ctC, rfd, KX11_sameOrWidens, KX11_sameOrWidens_0, KX11_sameOrWidens_5, KX11_sameOrWidens_10, KX11_sameOrWidens_14, KX11_sameOrWidens_15, KX11_sameOrWidens_21, KX11_sameOrWidens_25, KX11_sameOrWidens_30, KX11_sameOrWidens_34, KX11_sameOrWidens_39, KX11_sameOrWidens_44, KX11_sameOrWidens_48, KX11_sameOrWidens_49, lkC, s1C, s2C, dlC, kyC, Nat.beq, Nat.ble, rcd, rno, rsw, Nat.reduceAdd, Nat.reduceBEq, Nat.reduceDiv, List.drop, List.take, List.reverse, List.reverseAux, Int.toNat, Option.toList, List.append, List.cons_append, List.nil_append]
        refine ⟨fun h117 => ?_, fun h117 => ?_⟩
        · exact absurd h117 (by decide)
        · have g117 := (neI (x := (Int32.ofInt 1)) (y := 0) h117 : ¬ ((Int32.ofInt 1) : Int32).toInt = (0 : Int32).toInt)
          have z0_ : (0 : Int32).toInt = 0 := rfl
          refine hB _ _ _ _ _ (fun m118 hm118 => ?_)
          dsimp only [ucgo, ucwp, ucsC, uqC, uoC, ctC, rfd, KX11_sameOrWidens, KX11_sameOrWidens_0, KX11_sameOrWidens_5, KX11_sameOrWidens_10, KX11_sameOrWidens_14, KX11_sameOrWidens_15, KX11_sameOrWidens_21, KX11_sameOrWidens_25, KX11_sameOrWidens_30, KX11_sameOrWidens_34, KX11_sameOrWidens_39, KX11_sameOrWidens_44, KX11_sameOrWidens_48, KX11_sameOrWidens_49, lkC, s1C, s2C, dlC, kyC, Nat.beq, Nat.ble, rcd, rno, rsw, Nat.reduceAdd, Nat.reduceBEq, Nat.reduceDiv, List.drop, List.take, List.reverse, List.reverseAux, Int.toNat, Option.toList, List.append, List.cons_append, List.nil_append]
          have c119 : (Int32.ofInt 3).toInt = 3 := by decide
          refine ⟨fun h120 => ?_, fun h120 => ?_⟩
          · have g120 := (eqI (x := p1) (y := (Int32.ofInt 3)) h120 : (p1 : Int32).toInt = ((Int32.ofInt 3) : Int32).toInt)
            refine hB _ _ _ _ _ (fun m121 hm121 => ?_)
            dsimp only [ucgo, ucwp, ucsC, uqC, uoC, ctC, rfd, KX11_sameOrWidens, KX11_sameOrWidens_0, KX11_sameOrWidens_5, KX11_sameOrWidens_10, KX11_sameOrWidens_14, KX11_sameOrWidens_15, KX11_sameOrWidens_21, KX11_sameOrWidens_25, KX11_sameOrWidens_30, KX11_sameOrWidens_34, KX11_sameOrWidens_39, KX11_sameOrWidens_44, KX11_sameOrWidens_48, KX11_sameOrWidens_49, lkC, s1C, s2C, dlC, kyC, Nat.beq, Nat.ble, rcd, rno, rsw, Nat.reduceAdd, Nat.reduceBEq, Nat.reduceDiv, List.drop, List.take, List.reverse, List.reverseAux, Int.toNat, Option.toList, List.append, List.cons_append, List.nil_append]
            have c122 : (Int32.ofInt 1).toInt = 1 := by decide
            refine hB _ _ _ _ _ (fun m123 hm123 => ?_)
            dsimp only [ucgo, ucwp, ucsC, uqC, uoC, ctC, rfd, KX11_sameOrWidens, KX11_sameOrWidens_0, KX11_sameOrWidens_5, KX11_sameOrWidens_10, KX11_sameOrWidens_14, KX11_sameOrWidens_15, KX11_sameOrWidens_21, KX11_sameOrWidens_25, KX11_sameOrWidens_30, KX11_sameOrWidens_34, KX11_sameOrWidens_39, KX11_sameOrWidens_44, KX11_sameOrWidens_48, KX11_sameOrWidens_49, lkC, s1C, s2C, dlC, kyC, Nat.beq, Nat.ble, rcd, rno, rsw, Nat.reduceAdd, Nat.reduceBEq, Nat.reduceDiv, List.drop, List.take, List.reverse, List.reverseAux, Int.toNat, Option.toList, List.append, List.cons_append, List.nil_append]
            try dsimp only [Qz_sameOrWidens]
            exact ⟨_, rfl, Or.inl ⟨by omega, by unfold wdT smT; omega⟩, rfl⟩
          · have g120 := (neI (x := p1) (y := (Int32.ofInt 3)) h120 : ¬ (p1 : Int32).toInt = ((Int32.ofInt 3) : Int32).toInt)
            refine hB _ _ _ _ _ (fun m124 hm124 => ?_)
            dsimp only [ucgo, ucwp, ucsC, uqC, uoC, ctC, rfd, KX11_sameOrWidens, KX11_sameOrWidens_0, KX11_sameOrWidens_5, KX11_sameOrWidens_10, KX11_sameOrWidens_14, KX11_sameOrWidens_15, KX11_sameOrWidens_21, KX11_sameOrWidens_25, KX11_sameOrWidens_30, KX11_sameOrWidens_34, KX11_sameOrWidens_39, KX11_sameOrWidens_44, KX11_sameOrWidens_48, KX11_sameOrWidens_49, lkC, s1C, s2C, dlC, kyC, Nat.beq, Nat.ble, rcd, rno, rsw, Nat.reduceAdd, Nat.reduceBEq, Nat.reduceDiv, List.drop, List.take, List.reverse, List.reverseAux, Int.toNat, Option.toList, List.append, List.cons_append, List.nil_append]
            refine ⟨fun h125 => ?_, fun h125 => ?_⟩
            · have g125 := (neI (x := (Int32.ofInt 1)) (y := 0) h125 : ¬ ((Int32.ofInt 1) : Int32).toInt = (0 : Int32).toInt)
              have z0_ : (0 : Int32).toInt = 0 := rfl
              refine hB _ _ _ _ _ (fun m126 hm126 => ?_)
              dsimp only [ucgo, ucwp, ucsC, uqC, uoC, ctC, rfd, KX11_sameOrWidens, KX11_sameOrWidens_0, KX11_sameOrWidens_5, KX11_sameOrWidens_10, KX11_sameOrWidens_14, KX11_sameOrWidens_15, KX11_sameOrWidens_21, KX11_sameOrWidens_25, KX11_sameOrWidens_30, KX11_sameOrWidens_34, KX11_sameOrWidens_39, KX11_sameOrWidens_44, KX11_sameOrWidens_48, KX11_sameOrWidens_49, lkC, s1C, s2C, dlC, kyC, Nat.beq, Nat.ble, rcd, rno, rsw, Nat.reduceAdd, Nat.reduceBEq, Nat.reduceDiv, List.drop, List.take, List.reverse, List.reverseAux, Int.toNat, Option.toList, List.append, List.cons_append, List.nil_append]
              have c127 : (Int32.ofInt 4).toInt = 4 := by decide
              refine ⟨fun h128 => ?_, fun h128 => ?_⟩
              · have g128 := (neI (x := p1) (y := (Int32.ofInt 4)) h128 : ¬ (p1 : Int32).toInt = ((Int32.ofInt 4) : Int32).toInt)
                refine hB _ _ _ _ _ (fun m129 hm129 => ?_)
                dsimp only [ucgo, ucwp, ucsC, uqC, uoC, ctC, rfd, KX11_sameOrWidens, KX11_sameOrWidens_0, KX11_sameOrWidens_5, KX11_sameOrWidens_10, KX11_sameOrWidens_14, KX11_sameOrWidens_15, KX11_sameOrWidens_21, KX11_sameOrWidens_25, KX11_sameOrWidens_30, KX11_sameOrWidens_34, KX11_sameOrWidens_39, KX11_sameOrWidens_44, KX11_sameOrWidens_48, KX11_sameOrWidens_49, lkC, s1C, s2C, dlC, kyC, Nat.beq, Nat.ble, rcd, rno, rsw, Nat.reduceAdd, Nat.reduceBEq, Nat.reduceDiv, List.drop, List.take, List.reverse, List.reverseAux, Int.toNat, Option.toList, List.append, List.cons_append, List.nil_append]
                have c130 : (Int32.ofInt 0).toInt = 0 := by decide
                refine hB _ _ _ _ _ (fun m131 hm131 => ?_)
                dsimp only [ucgo, ucwp, ucsC, uqC, uoC, ctC, rfd, KX11_sameOrWidens, KX11_sameOrWidens_0, KX11_sameOrWidens_5, KX11_sameOrWidens_10, KX11_sameOrWidens_14, KX11_sameOrWidens_15, KX11_sameOrWidens_21, KX11_sameOrWidens_25, KX11_sameOrWidens_30, KX11_sameOrWidens_34, KX11_sameOrWidens_39, KX11_sameOrWidens_44, KX11_sameOrWidens_48, KX11_sameOrWidens_49, lkC, s1C, s2C, dlC, kyC, Nat.beq, Nat.ble, rcd, rno, rsw, Nat.reduceAdd, Nat.reduceBEq, Nat.reduceDiv, List.drop, List.take, List.reverse, List.reverseAux, Int.toNat, Option.toList, List.append, List.cons_append, List.nil_append]
                try dsimp only [Qz_sameOrWidens]
                exact ⟨_, rfl, Or.inr ⟨by omega, by unfold wdT smT; omega⟩, rfl⟩
              · have g128 := (eqI (x := p1) (y := (Int32.ofInt 4)) h128 : (p1 : Int32).toInt = ((Int32.ofInt 4) : Int32).toInt)
                refine hB _ _ _ _ _ (fun m132 hm132 => ?_)
                dsimp only [ucgo, ucwp, ucsC, uqC, uoC, ctC, rfd, KX11_sameOrWidens, KX11_sameOrWidens_0, KX11_sameOrWidens_5, KX11_sameOrWidens_10, KX11_sameOrWidens_14, KX11_sameOrWidens_15, KX11_sameOrWidens_21, KX11_sameOrWidens_25, KX11_sameOrWidens_30, KX11_sameOrWidens_34, KX11_sameOrWidens_39, KX11_sameOrWidens_44, KX11_sameOrWidens_48, KX11_sameOrWidens_49, lkC, s1C, s2C, dlC, kyC, Nat.beq, Nat.ble, rcd, rno, rsw, Nat.reduceAdd, Nat.reduceBEq, Nat.reduceDiv, List.drop, List.take, List.reverse, List.reverseAux, Int.toNat, Option.toList, List.append, List.cons_append, List.nil_append]
                have c133 : (Int32.ofInt 1).toInt = 1 := by decide
                refine hB _ _ _ _ _ (fun m134 hm134 => ?_)
                dsimp only [ucgo, ucwp, ucsC, uqC, uoC, ctC, rfd, KX11_sameOrWidens, KX11_sameOrWidens_0, KX11_sameOrWidens_5, KX11_sameOrWidens_10, KX11_sameOrWidens_14, KX11_sameOrWidens_15, KX11_sameOrWidens_21, KX11_sameOrWidens_25, KX11_sameOrWidens_30, KX11_sameOrWidens_34, KX11_sameOrWidens_39, KX11_sameOrWidens_44, KX11_sameOrWidens_48, KX11_sameOrWidens_49, lkC, s1C, s2C, dlC, kyC, Nat.beq, Nat.ble, rcd, rno, rsw, Nat.reduceAdd, Nat.reduceBEq, Nat.reduceDiv, List.drop, List.take, List.reverse, List.reverseAux, Int.toNat, Option.toList, List.append, List.cons_append, List.nil_append]
                try dsimp only [Qz_sameOrWidens]
                exact ⟨_, rfl, Or.inl ⟨by omega, by unfold wdT smT; omega⟩, rfl⟩
            · exact absurd h125 (by decide)
theorem wz_sameOrWidens : ∀ (L : Nat) (As : List AvC) (σ : CsC) (w : Option AvC) (τ : CsC), EvF L 224 As σ w τ → Uz_sameOrWidens As σ w τ := by
  intro L
  cases L with
  | zero => exact fun _ _ _ _ h => h.elim
  | succ L => exact fun As σ w τ h y hy => EvF.us (cs := []) (pz_sameOrWidens y) rfl (fun _ h => absurd h List.not_mem_nil) h hy
abbrev Pz_isLogical : ((Int → Int) × (Nat → Nat) × (Nat → Nat) × (Nat → Nat) × (Nat → Nat) × ZS) → CpC := fun y As σ => match y with
  | (N, E, A, B, V, z) => ∃ (p0 : Int32), As = [.inl p0]
abbrev Qz_isLogical : ((Int → Int) × (Nat → Nat) × (Nat → Nat) × (Nat → Nat) × (Nat → Nat) × ZS) → CqC := fun y As σ w τ => match y, As with
  | (N, E, A, B, V, z), [.inl p0] => ∃ r, w = some (.inl r) ∧ ((r.toInt = 1 ∧ (p0.toInt = 20 ∨ p0.toInt = 21)) ∨ (r.toInt = 0 ∧ ¬ (p0.toInt = 20 ∨ p0.toInt = 21))) ∧ σ = τ
  | _, _ => True
abbrev Uz_isLogical : CqC := fun As σ w τ => ∀ y, Pz_isLogical y As σ → Qz_isLogical y As σ w τ
set_option maxHeartbeats 4000000 in
theorem pz_isLogical (y : (Int → Int) × (Nat → Nat) × (Nat → Nat) × (Nat → Nat) × (Nat → Nat) × ZS) : PbC KX3_isLogical [] [] (fun As σ => Pz_isLogical y As σ ∧ cnC σ ≤ 1000000 ∧ ∃ w τ, uqC quL 64 As σ w τ) (Qz_isLogical y) := by
  obtain ⟨N, E, A, B, V, z⟩ := y
  rintro As σ ⟨⟨p0, rfl⟩, hcn, _, _, hQ⟩ K hB hW n_
  change K n_ 0 [(0, .inl p0)] [] σ
  refine hB _ _ _ _ _ (fun m51 hm51 => ?_)
  dsimp only [ucgo, ucwp, ucsC, uqC, uoC, ctC, rfd, KX3_isLogical, KX3_isLogical_0, KX3_isLogical_6, KX3_isLogical_12, KX3_isLogical_16, KX3_isLogical_17, lkC, s1C, s2C, dlC, kyC, Nat.beq, Nat.ble, rcd, rno, rsw, Nat.reduceAdd, Nat.reduceBEq, Nat.reduceDiv, List.drop, List.take, List.reverse, List.reverseAux, Int.toNat, Option.toList, List.append, List.cons_append, List.nil_append]
  have c52 : (Int32.ofInt 21).toInt = 21 := by decide
  refine ⟨fun h53 => ?_, fun h53 => ?_⟩
  · have g53 := (eqI (x := p0) (y := (Int32.ofInt 21)) h53 : (p0 : Int32).toInt = ((Int32.ofInt 21) : Int32).toInt)
    refine hB _ _ _ _ _ (fun m54 hm54 => ?_)
    dsimp only [ucgo, ucwp, ucsC, uqC, uoC, ctC, rfd, KX3_isLogical, KX3_isLogical_0, KX3_isLogical_6, KX3_isLogical_12, KX3_isLogical_16, KX3_isLogical_17, lkC, s1C, s2C, dlC, kyC, Nat.beq, Nat.ble, rcd, rno, rsw, Nat.reduceAdd, Nat.reduceBEq, Nat.reduceDiv, List.drop, List.take, List.reverse, List.reverseAux, Int.toNat, Option.toList, List.append, List.cons_append, List.nil_append]
    have c55 : (Int32.ofInt 1).toInt = 1 := by decide
    refine hB _ _ _ _ _ (fun m56 hm56 => ?_)
    dsimp only [ucgo, ucwp, ucsC, uqC, uoC, ctC, rfd, KX3_isLogical, KX3_isLogical_0, KX3_isLogical_6, KX3_isLogical_12, KX3_isLogical_16, KX3_isLogical_17, lkC, s1C, s2C, dlC, kyC, Nat.beq, Nat.ble, rcd, rno, rsw, Nat.reduceAdd, Nat.reduceBEq, Nat.reduceDiv, List.drop, List.take, List.reverse, List.reverseAux, Int.toNat, Option.toList, List.append, List.cons_append, List.nil_append]
    try dsimp only [Qz_isLogical]
    exact ⟨_, rfl, Or.inl ⟨by omega, by omega⟩, rfl⟩
  · have g53 := (neI (x := p0) (y := (Int32.ofInt 21)) h53 : ¬ (p0 : Int32).toInt = ((Int32.ofInt 21) : Int32).toInt)
    refine hB _ _ _ _ _ (fun m57 hm57 => ?_)
    dsimp only [ucgo, ucwp, ucsC, uqC, uoC, ctC, rfd, KX3_isLogical, KX3_isLogical_0, KX3_isLogical_6, KX3_isLogical_12, KX3_isLogical_16, KX3_isLogical_17, lkC, s1C, s2C, dlC, kyC, Nat.beq, Nat.ble, rcd, rno, rsw, Nat.reduceAdd, Nat.reduceBEq, Nat.reduceDiv, List.drop, List.take, List.reverse, List.reverseAux, Int.toNat, Option.toList, List.append, List.cons_append, List.nil_append]
    have c58 : (Int32.ofInt 20).toInt = 20 := by decide
    refine ⟨fun h59 => ?_, fun h59 => ?_⟩
    · have g59 := (neI (x := p0) (y := (Int32.ofInt 20)) h59 : ¬ (p0 : Int32).toInt = ((Int32.ofInt 20) : Int32).toInt)
      refine hB _ _ _ _ _ (fun m60 hm60 => ?_)
      dsimp only [ucgo, ucwp, ucsC, uqC, uoC, ctC, rfd, KX3_isLogical, KX3_isLogical_0, KX3_isLogical_6, KX3_isLogical_12, KX3_isLogical_16, KX3_isLogical_17, lkC, s1C, s2C, dlC, kyC, Nat.beq, Nat.ble, rcd, rno, rsw, Nat.reduceAdd, Nat.reduceBEq, Nat.reduceDiv, List.drop, List.take, List.reverse, List.reverseAux, Int.toNat, Option.toList, List.append, List.cons_append, List.nil_append]
      have c61 : (Int32.ofInt 0).toInt = 0 := by decide
      refine hB _ _ _ _ _ (fun m62 hm62 => ?_)
      dsimp only [ucgo, ucwp, ucsC, uqC, uoC, ctC, rfd, KX3_isLogical, KX3_isLogical_0, KX3_isLogical_6, KX3_isLogical_12, KX3_isLogical_16, KX3_isLogical_17, lkC, s1C, s2C, dlC, kyC, Nat.beq, Nat.ble, rcd, rno, rsw, Nat.reduceAdd, Nat.reduceBEq, Nat.reduceDiv, List.drop, List.take, List.reverse, List.reverseAux, Int.toNat, Option.toList, List.append, List.cons_append, List.nil_append]
      try dsimp only [Qz_isLogical]
      exact ⟨_, rfl, Or.inr ⟨by omega, by omega⟩, rfl⟩
    · have g59 := (eqI (x := p0) (y := (Int32.ofInt 20)) h59 : (p0 : Int32).toInt = ((Int32.ofInt 20) : Int32).toInt)
      refine hB _ _ _ _ _ (fun m63 hm63 => ?_)
      dsimp only [ucgo, ucwp, ucsC, uqC, uoC, ctC, rfd, KX3_isLogical, KX3_isLogical_0, KX3_isLogical_6, KX3_isLogical_12, KX3_isLogical_16, KX3_isLogical_17, lkC, s1C, s2C, dlC, kyC, Nat.beq, Nat.ble, rcd, rno, rsw, Nat.reduceAdd, Nat.reduceBEq, Nat.reduceDiv, List.drop, List.take, List.reverse, List.reverseAux, Int.toNat, Option.toList, List.append, List.cons_append, List.nil_append]
      have c64 : (Int32.ofInt 1).toInt = 1 := by decide
      refine hB _ _ _ _ _ (fun m65 hm65 => ?_)
      dsimp only [ucgo, ucwp, ucsC, uqC, uoC, ctC, rfd, KX3_isLogical, KX3_isLogical_0, KX3_isLogical_6, KX3_isLogical_12, KX3_isLogical_16, KX3_isLogical_17, lkC, s1C, s2C, dlC, kyC, Nat.beq, Nat.ble, rcd, rno, rsw, Nat.reduceAdd, Nat.reduceBEq, Nat.reduceDiv, List.drop, List.take, List.reverse, List.reverseAux, Int.toNat, Option.toList, List.append, List.cons_append, List.nil_append]
      try dsimp only [Qz_isLogical]
      exact ⟨_, rfl, Or.inl ⟨by omega, by omega⟩, rfl⟩
theorem wz_isLogical : ∀ (L : Nat) (As : List AvC) (σ : CsC) (w : Option AvC) (τ : CsC), EvF L 64 As σ w τ → Uz_isLogical As σ w τ := by
  intro L
  cases L with
  | zero => exact fun _ _ _ _ h => h.elim
  | succ L => exact fun As σ w τ h y hy => EvF.us (cs := []) (pz_isLogical y) rfl (fun _ h => absurd h List.not_mem_nil) h hy
abbrev Pz_takesBoth : ((Int → Int) × (Nat → Nat) × (Nat → Nat) × (Nat → Nat) × (Nat → Nat) × ZS) → CpC := fun y As σ => match y with
  | (N, E, A, B, V, z) => ∃ (p0 : Int32), As = [.inl p0]
abbrev Qz_takesBoth : ((Int → Int) × (Nat → Nat) × (Nat → Nat) × (Nat → Nat) × (Nat → Nat) × ZS) → CqC := fun y As σ w τ => match y, As with
  | (N, E, A, B, V, z), [.inl p0] => ∃ r, w = some (.inl r) ∧ ((r.toInt = 1 ∧ (22 ≤ p0.toInt ∧ p0.toInt ≤ 26)) ∨ (r.toInt = 0 ∧ ¬ (22 ≤ p0.toInt ∧ p0.toInt ≤ 26))) ∧ σ = τ
  | _, _ => True
abbrev Uz_takesBoth : CqC := fun As σ w τ => ∀ y, Pz_takesBoth y As σ → Qz_takesBoth y As σ w τ
set_option maxHeartbeats 4000000 in
theorem pz_takesBoth (y : (Int → Int) × (Nat → Nat) × (Nat → Nat) × (Nat → Nat) × (Nat → Nat) × ZS) : PbC KX3_takesBoth [] [] (fun As σ => Pz_takesBoth y As σ ∧ cnC σ ≤ 1000000 ∧ ∃ w τ, uqC quL 65 As σ w τ) (Qz_takesBoth y) := by
  obtain ⟨N, E, A, B, V, z⟩ := y
  rintro As σ ⟨⟨p0, rfl⟩, hcn, _, _, hQ⟩ K hB hW n_
  change K n_ 0 [(0, .inl p0)] [] σ
  refine hB _ _ _ _ _ (fun m51 hm51 => ?_)
  dsimp only [ucgo, ucwp, ucsC, uqC, uoC, ctC, rfd, KX3_takesBoth, KX3_takesBoth_0, KX3_takesBoth_6, KX3_takesBoth_12, KX3_takesBoth_16, KX3_takesBoth_17, lkC, s1C, s2C, dlC, kyC, Nat.beq, Nat.ble, rcd, rno, rsw, Nat.reduceAdd, Nat.reduceBEq, Nat.reduceDiv, List.drop, List.take, List.reverse, List.reverseAux, Int.toNat, Option.toList, List.append, List.cons_append, List.nil_append]
  have c52 : (Int32.ofInt 22).toInt = 22 := by decide
  refine ⟨fun h53 => ?_, fun h53 => ?_⟩
  · have g53 := ltI (x := p0) (y := (Int32.ofInt 22)) h53
    refine hB _ _ _ _ _ (fun m54 hm54 => ?_)
    dsimp only [ucgo, ucwp, ucsC, uqC, uoC, ctC, rfd, KX3_takesBoth, KX3_takesBoth_0, KX3_takesBoth_6, KX3_takesBoth_12, KX3_takesBoth_16, KX3_takesBoth_17, lkC, s1C, s2C, dlC, kyC, Nat.beq, Nat.ble, rcd, rno, rsw, Nat.reduceAdd, Nat.reduceBEq, Nat.reduceDiv, List.drop, List.take, List.reverse, List.reverseAux, Int.toNat, Option.toList, List.append, List.cons_append, List.nil_append]
    have c55 : (Int32.ofInt 0).toInt = 0 := by decide
    refine hB _ _ _ _ _ (fun m56 hm56 => ?_)
    dsimp only [ucgo, ucwp, ucsC, uqC, uoC, ctC, rfd, KX3_takesBoth, KX3_takesBoth_0, KX3_takesBoth_6, KX3_takesBoth_12, KX3_takesBoth_16, KX3_takesBoth_17, lkC, s1C, s2C, dlC, kyC, Nat.beq, Nat.ble, rcd, rno, rsw, Nat.reduceAdd, Nat.reduceBEq, Nat.reduceDiv, List.drop, List.take, List.reverse, List.reverseAux, Int.toNat, Option.toList, List.append, List.cons_append, List.nil_append]
    try dsimp only [Qz_takesBoth]
    exact ⟨_, rfl, Or.inr ⟨by omega, by omega⟩, rfl⟩
  · have g53 := nltI (x := p0) (y := (Int32.ofInt 22)) h53
    refine hB _ _ _ _ _ (fun m57 hm57 => ?_)
    dsimp only [ucgo, ucwp, ucsC, uqC, uoC, ctC, rfd, KX3_takesBoth, KX3_takesBoth_0, KX3_takesBoth_6, KX3_takesBoth_12, KX3_takesBoth_16, KX3_takesBoth_17, lkC, s1C, s2C, dlC, kyC, Nat.beq, Nat.ble, rcd, rno, rsw, Nat.reduceAdd, Nat.reduceBEq, Nat.reduceDiv, List.drop, List.take, List.reverse, List.reverseAux, Int.toNat, Option.toList, List.append, List.cons_append, List.nil_append]
    have c58 : (Int32.ofInt 26).toInt = 26 := by decide
    refine ⟨fun h59 => ?_, fun h59 => ?_⟩
    · have g59 := ltI (x := (Int32.ofInt 26)) (y := p0) h59
      refine hB _ _ _ _ _ (fun m60 hm60 => ?_)
      dsimp only [ucgo, ucwp, ucsC, uqC, uoC, ctC, rfd, KX3_takesBoth, KX3_takesBoth_0, KX3_takesBoth_6, KX3_takesBoth_12, KX3_takesBoth_16, KX3_takesBoth_17, lkC, s1C, s2C, dlC, kyC, Nat.beq, Nat.ble, rcd, rno, rsw, Nat.reduceAdd, Nat.reduceBEq, Nat.reduceDiv, List.drop, List.take, List.reverse, List.reverseAux, Int.toNat, Option.toList, List.append, List.cons_append, List.nil_append]
      have c61 : (Int32.ofInt 0).toInt = 0 := by decide
      refine hB _ _ _ _ _ (fun m62 hm62 => ?_)
      dsimp only [ucgo, ucwp, ucsC, uqC, uoC, ctC, rfd, KX3_takesBoth, KX3_takesBoth_0, KX3_takesBoth_6, KX3_takesBoth_12, KX3_takesBoth_16, KX3_takesBoth_17, lkC, s1C, s2C, dlC, kyC, Nat.beq, Nat.ble, rcd, rno, rsw, Nat.reduceAdd, Nat.reduceBEq, Nat.reduceDiv, List.drop, List.take, List.reverse, List.reverseAux, Int.toNat, Option.toList, List.append, List.cons_append, List.nil_append]
      try dsimp only [Qz_takesBoth]
      exact ⟨_, rfl, Or.inr ⟨by omega, by omega⟩, rfl⟩
    · have g59 := nltI (x := (Int32.ofInt 26)) (y := p0) h59
      refine hB _ _ _ _ _ (fun m63 hm63 => ?_)
      dsimp only [ucgo, ucwp, ucsC, uqC, uoC, ctC, rfd, KX3_takesBoth, KX3_takesBoth_0, KX3_takesBoth_6, KX3_takesBoth_12, KX3_takesBoth_16, KX3_takesBoth_17, lkC, s1C, s2C, dlC, kyC, Nat.beq, Nat.ble, rcd, rno, rsw, Nat.reduceAdd, Nat.reduceBEq, Nat.reduceDiv, List.drop, List.take, List.reverse, List.reverseAux, Int.toNat, Option.toList, List.append, List.cons_append, List.nil_append]
      have c64 : (Int32.ofInt 1).toInt = 1 := by decide
      refine hB _ _ _ _ _ (fun m65 hm65 => ?_)
      dsimp only [ucgo, ucwp, ucsC, uqC, uoC, ctC, rfd, KX3_takesBoth, KX3_takesBoth_0, KX3_takesBoth_6, KX3_takesBoth_12, KX3_takesBoth_16, KX3_takesBoth_17, lkC, s1C, s2C, dlC, kyC, Nat.beq, Nat.ble, rcd, rno, rsw, Nat.reduceAdd, Nat.reduceBEq, Nat.reduceDiv, List.drop, List.take, List.reverse, List.reverseAux, Int.toNat, Option.toList, List.append, List.cons_append, List.nil_append]
      try dsimp only [Qz_takesBoth]
      exact ⟨_, rfl, Or.inl ⟨by omega, by omega⟩, rfl⟩
theorem wz_takesBoth : ∀ (L : Nat) (As : List AvC) (σ : CsC) (w : Option AvC) (τ : CsC), EvF L 65 As σ w τ → Uz_takesBoth As σ w τ := by
  intro L
  cases L with
  | zero => exact fun _ _ _ _ h => h.elim
  | succ L => exact fun As σ w τ h y hy => EvF.us (cs := []) (pz_takesBoth y) rfl (fun _ h => absurd h List.not_mem_nil) h hy
abbrev Pz_isSmall : ((Int → Int) × (Nat → Nat) × (Nat → Nat) × (Nat → Nat) × (Nat → Nat) × ZS) → CpC := fun y As σ => match y with
  | (N, E, A, B, V, z) => ∃ (p0 : Int32), As = [.inl p0]
abbrev Qz_isSmall : ((Int → Int) × (Nat → Nat) × (Nat → Nat) × (Nat → Nat) × (Nat → Nat) × ZS) → CqC := fun y As σ w τ => match y, As with
  | (N, E, A, B, V, z), [.inl p0] => ∃ r, w = some (.inl r) ∧ ((r.toInt = 1 ∧ (smT p0.toInt)) ∨ (r.toInt = 0 ∧ ¬ (smT p0.toInt))) ∧ σ = τ
  | _, _ => True
abbrev Uz_isSmall : CqC := fun As σ w τ => ∀ y, Pz_isSmall y As σ → Qz_isSmall y As σ w τ
set_option maxHeartbeats 4000000 in
theorem pz_isSmall (y : (Int → Int) × (Nat → Nat) × (Nat → Nat) × (Nat → Nat) × (Nat → Nat) × ZS) : PbC KX3_isSmall [] [] (fun As σ => Pz_isSmall y As σ ∧ cnC σ ≤ 1000000 ∧ ∃ w τ, uqC quL 73 As σ w τ) (Qz_isSmall y) := by
  obtain ⟨N, E, A, B, V, z⟩ := y
  rintro As σ ⟨⟨p0, rfl⟩, hcn, _, _, hQ⟩ K hB hW n_
  change K n_ 0 [(0, .inl p0)] [] σ
  refine hB _ _ _ _ _ (fun m51 hm51 => ?_)
  dsimp only [ucgo, ucwp, ucsC, uqC, uoC, ctC, rfd, KX3_isSmall, KX3_isSmall_0, KX3_isSmall_5, KX3_isSmall_10, KX3_isSmall_14, KX3_isSmall_15, lkC, s1C, s2C, dlC, kyC, Nat.beq, Nat.ble, rcd, rno, rsw, Nat.reduceAdd, Nat.reduceBEq, Nat.reduceDiv, List.drop, List.take, List.reverse, List.reverseAux, Int.toNat, Option.toList, List.append, List.cons_append, List.nil_append]
  have c52 : (Int32.ofInt 1).toInt = 1 := by decide
  refine ⟨fun h53 => ?_, fun h53 => ?_⟩
  · have g53 := (eqI (x := p0) (y := (Int32.ofInt 1)) h53 : (p0 : Int32).toInt = ((Int32.ofInt 1) : Int32).toInt)
    refine hB _ _ _ _ _ (fun m54 hm54 => ?_)
    dsimp only [ucgo, ucwp, ucsC, uqC, uoC, ctC, rfd, KX3_isSmall, KX3_isSmall_0, KX3_isSmall_5, KX3_isSmall_10, KX3_isSmall_14, KX3_isSmall_15, lkC, s1C, s2C, dlC, kyC, Nat.beq, Nat.ble, rcd, rno, rsw, Nat.reduceAdd, Nat.reduceBEq, Nat.reduceDiv, List.drop, List.take, List.reverse, List.reverseAux, Int.toNat, Option.toList, List.append, List.cons_append, List.nil_append]
    have c55 : (Int32.ofInt 1).toInt = 1 := by decide
    refine hB _ _ _ _ _ (fun m56 hm56 => ?_)
    dsimp only [ucgo, ucwp, ucsC, uqC, uoC, ctC, rfd, KX3_isSmall, KX3_isSmall_0, KX3_isSmall_5, KX3_isSmall_10, KX3_isSmall_14, KX3_isSmall_15, lkC, s1C, s2C, dlC, kyC, Nat.beq, Nat.ble, rcd, rno, rsw, Nat.reduceAdd, Nat.reduceBEq, Nat.reduceDiv, List.drop, List.take, List.reverse, List.reverseAux, Int.toNat, Option.toList, List.append, List.cons_append, List.nil_append]
    try dsimp only [Qz_isSmall]
    exact ⟨_, rfl, Or.inl ⟨by omega, by unfold smT; omega⟩, rfl⟩
  · have g53 := (neI (x := p0) (y := (Int32.ofInt 1)) h53 : ¬ (p0 : Int32).toInt = ((Int32.ofInt 1) : Int32).toInt)
    refine hB _ _ _ _ _ (fun m57 hm57 => ?_)
    dsimp only [ucgo, ucwp, ucsC, uqC, uoC, ctC, rfd, KX3_isSmall, KX3_isSmall_0, KX3_isSmall_5, KX3_isSmall_10, KX3_isSmall_14, KX3_isSmall_15, lkC, s1C, s2C, dlC, kyC, Nat.beq, Nat.ble, rcd, rno, rsw, Nat.reduceAdd, Nat.reduceBEq, Nat.reduceDiv, List.drop, List.take, List.reverse, List.reverseAux, Int.toNat, Option.toList, List.append, List.cons_append, List.nil_append]
    have c58 : (Int32.ofInt 2).toInt = 2 := by decide
    refine ⟨fun h59 => ?_, fun h59 => ?_⟩
    · have g59 := (neI (x := p0) (y := (Int32.ofInt 2)) h59 : ¬ (p0 : Int32).toInt = ((Int32.ofInt 2) : Int32).toInt)
      refine hB _ _ _ _ _ (fun m60 hm60 => ?_)
      dsimp only [ucgo, ucwp, ucsC, uqC, uoC, ctC, rfd, KX3_isSmall, KX3_isSmall_0, KX3_isSmall_5, KX3_isSmall_10, KX3_isSmall_14, KX3_isSmall_15, lkC, s1C, s2C, dlC, kyC, Nat.beq, Nat.ble, rcd, rno, rsw, Nat.reduceAdd, Nat.reduceBEq, Nat.reduceDiv, List.drop, List.take, List.reverse, List.reverseAux, Int.toNat, Option.toList, List.append, List.cons_append, List.nil_append]
      have c61 : (Int32.ofInt 0).toInt = 0 := by decide
      refine hB _ _ _ _ _ (fun m62 hm62 => ?_)
      dsimp only [ucgo, ucwp, ucsC, uqC, uoC, ctC, rfd, KX3_isSmall, KX3_isSmall_0, KX3_isSmall_5, KX3_isSmall_10, KX3_isSmall_14, KX3_isSmall_15, lkC, s1C, s2C, dlC, kyC, Nat.beq, Nat.ble, rcd, rno, rsw, Nat.reduceAdd, Nat.reduceBEq, Nat.reduceDiv, List.drop, List.take, List.reverse, List.reverseAux, Int.toNat, Option.toList, List.append, List.cons_append, List.nil_append]
      try dsimp only [Qz_isSmall]
      exact ⟨_, rfl, Or.inr ⟨by omega, by unfold smT; omega⟩, rfl⟩
    · have g59 := (eqI (x := p0) (y := (Int32.ofInt 2)) h59 : (p0 : Int32).toInt = ((Int32.ofInt 2) : Int32).toInt)
      refine hB _ _ _ _ _ (fun m63 hm63 => ?_)
      dsimp only [ucgo, ucwp, ucsC, uqC, uoC, ctC, rfd, KX3_isSmall, KX3_isSmall_0, KX3_isSmall_5, KX3_isSmall_10, KX3_isSmall_14, KX3_isSmall_15, lkC, s1C, s2C, dlC, kyC, Nat.beq, Nat.ble, rcd, rno, rsw, Nat.reduceAdd, Nat.reduceBEq, Nat.reduceDiv, List.drop, List.take, List.reverse, List.reverseAux, Int.toNat, Option.toList, List.append, List.cons_append, List.nil_append]
      have c64 : (Int32.ofInt 1).toInt = 1 := by decide
      refine hB _ _ _ _ _ (fun m65 hm65 => ?_)
      dsimp only [ucgo, ucwp, ucsC, uqC, uoC, ctC, rfd, KX3_isSmall, KX3_isSmall_0, KX3_isSmall_5, KX3_isSmall_10, KX3_isSmall_14, KX3_isSmall_15, lkC, s1C, s2C, dlC, kyC, Nat.beq, Nat.ble, rcd, rno, rsw, Nat.reduceAdd, Nat.reduceBEq, Nat.reduceDiv, List.drop, List.take, List.reverse, List.reverseAux, Int.toNat, Option.toList, List.append, List.cons_append, List.nil_append]
      try dsimp only [Qz_isSmall]
      exact ⟨_, rfl, Or.inl ⟨by omega, by unfold smT; omega⟩, rfl⟩
theorem wz_isSmall : ∀ (L : Nat) (As : List AvC) (σ : CsC) (w : Option AvC) (τ : CsC), EvF L 73 As σ w τ → Uz_isSmall As σ w τ := by
  intro L
  cases L with
  | zero => exact fun _ _ _ _ h => h.elim
  | succ L => exact fun As σ w τ h y hy => EvF.us (cs := []) (pz_isSmall y) rfl (fun _ h => absurd h List.not_mem_nil) h hy
abbrev Pz_isLeftTaken : ((Int → Int) × (Nat → Nat) × (Nat → Nat) × (Nat → Nat) × (Nat → Nat) × ZS) → CpC := fun y As σ => match y with
  | (N, E, A, B, V, z) => ∃ (p0 : Int32) (p1 : Int32), As = [.inl p0, .inl p1]
abbrev Qz_isLeftTaken : ((Int → Int) × (Nat → Nat) × (Nat → Nat) × (Nat → Nat) × (Nat → Nat) × ZS) → CqC := fun y As σ w τ => match y, As with
  | (N, E, A, B, V, z), [.inl p0, .inl p1] => ∃ r, w = some (.inl r) ∧ ((r.toInt = 1 ∧ (ltT p0.toInt p1.toInt)) ∨ (r.toInt = 0 ∧ ¬ (ltT p0.toInt p1.toInt))) ∧ σ = τ
  | _, _ => True
abbrev Uz_isLeftTaken : CqC := fun As σ w τ => ∀ y, Pz_isLeftTaken y As σ → Qz_isLeftTaken y As σ w τ
set_option maxHeartbeats 4000000 in
theorem pz_isLeftTaken (y : (Int → Int) × (Nat → Nat) × (Nat → Nat) × (Nat → Nat) × (Nat → Nat) × ZS) : PbC KX3_isLeftTaken [(64, TrP, EqC 64), (223, TrP, EqC 223), (65, TrP, EqC 65)] [(64, Uz_isLogical), (223, Uz_isNumber), (65, Uz_takesBoth)] (fun As σ => Pz_isLeftTaken y As σ ∧ cnC σ ≤ 1000000 ∧ ∃ w τ, uqC quL 66 As σ w τ) (Qz_isLeftTaken y) := by
  obtain ⟨N, E, A, B, V, z⟩ := y
  rintro As σ ⟨⟨p0, p1, rfl⟩, hcn, _, _, hQ⟩ K hB hW n_
  change K n_ 0 [(0, .inl p0), (1, .inl p1)] [] σ
  refine hB _ _ _ _ _ (fun m51 hm51 => ?_)
  dsimp only [ucgo, ucwp, ucsC, uqC, uoC, ctC, rfd, KX3_isLeftTaken, KX3_isLeftTaken_0, KX3_isLeftTaken_7, KX3_isLeftTaken_11, KX3_isLeftTaken_15, KX3_isLeftTaken_16, KX3_isLeftTaken_17, KX3_isLeftTaken_24, KX3_isLeftTaken_31, KX3_isLeftTaken_35, KX3_isLeftTaken_39, KX3_isLeftTaken_40, lkC, s1C, s2C, dlC, kyC, Nat.beq, Nat.ble, rcd, rno, rsw, Nat.reduceAdd, Nat.reduceBEq, Nat.reduceDiv, List.drop, List.take, List.reverse, List.reverseAux, Int.toNat, Option.toList, List.append, List.cons_append, List.nil_append]
  intro w52 τ52 o52 q52
  obtain ⟨r52, rfl, hr52, rfl⟩ := q52 (N, E, A, B, V, z) ⟨_, rfl⟩
  try dsimp only [Option.toList, List.cons_append, List.nil_append, s1C, s2C, dlC, kyC, Nat.beq, lkC, rcd, rno, rsw]
  refine ⟨fun h53 => ?_, fun h53 => ?_⟩
  · have g53 := (eqI (x := r52) (y := 0) h53 : (r52 : Int32).toInt = (0 : Int32).toInt)
    have z0_ : (0 : Int32).toInt = 0 := rfl
    refine hB _ _ _ _ _ (fun m54 hm54 => ?_)
    dsimp only [ucgo, ucwp, ucsC, uqC, uoC, ctC, rfd, KX3_isLeftTaken, KX3_isLeftTaken_0, KX3_isLeftTaken_7, KX3_isLeftTaken_11, KX3_isLeftTaken_15, KX3_isLeftTaken_16, KX3_isLeftTaken_17, KX3_isLeftTaken_24, KX3_isLeftTaken_31, KX3_isLeftTaken_35, KX3_isLeftTaken_39, KX3_isLeftTaken_40, lkC, s1C, s2C, dlC, kyC, Nat.beq, Nat.ble, rcd, rno, rsw, Nat.reduceAdd, Nat.reduceBEq, Nat.reduceDiv, List.drop, List.take, List.reverse, List.reverseAux, Int.toNat, Option.toList, List.append, List.cons_append, List.nil_append]
    intro w55 τ55 o55 q55
    obtain ⟨r55, rfl, hr55, rfl⟩ := q55 (N, E, A, B, V, z) ⟨_, rfl⟩
    try dsimp only [Option.toList, List.cons_append, List.nil_append, s1C, s2C, dlC, kyC, Nat.beq, lkC, rcd, rno, rsw]
    refine ⟨fun h56 => ?_, fun h56 => ?_⟩
    · have g56 := (neI (x := r55) (y := 0) h56 : ¬ (r55 : Int32).toInt = (0 : Int32).toInt)
      have z0_ : (0 : Int32).toInt = 0 := rfl
      refine hB _ _ _ _ _ (fun m57 hm57 => ?_)
      dsimp only [ucgo, ucwp, ucsC, uqC, uoC, ctC, rfd, KX3_isLeftTaken, KX3_isLeftTaken_0, KX3_isLeftTaken_7, KX3_isLeftTaken_11, KX3_isLeftTaken_15, KX3_isLeftTaken_16, KX3_isLeftTaken_17, KX3_isLeftTaken_24, KX3_isLeftTaken_31, KX3_isLeftTaken_35, KX3_isLeftTaken_39, KX3_isLeftTaken_40, lkC, s1C, s2C, dlC, kyC, Nat.beq, Nat.ble, rcd, rno, rsw, Nat.reduceAdd, Nat.reduceBEq, Nat.reduceDiv, List.drop, List.take, List.reverse, List.reverseAux, Int.toNat, Option.toList, List.append, List.cons_append, List.nil_append]
      have c58 : (Int32.ofInt 1).toInt = 1 := by decide
      refine hB _ _ _ _ _ (fun m59 hm59 => ?_)
      dsimp only [ucgo, ucwp, ucsC, uqC, uoC, ctC, rfd, KX3_isLeftTaken, KX3_isLeftTaken_0, KX3_isLeftTaken_7, KX3_isLeftTaken_11, KX3_isLeftTaken_15, KX3_isLeftTaken_16, KX3_isLeftTaken_17, KX3_isLeftTaken_24, KX3_isLeftTaken_31, KX3_isLeftTaken_35, KX3_isLeftTaken_39, KX3_isLeftTaken_40, lkC, s1C, s2C, dlC, kyC, Nat.beq, Nat.ble, rcd, rno, rsw, Nat.reduceAdd, Nat.reduceBEq, Nat.reduceDiv, List.drop, List.take, List.reverse, List.reverseAux, Int.toNat, Option.toList, List.append, List.cons_append, List.nil_append]
      try dsimp only [Qz_isLeftTaken]
      exact ⟨_, rfl, Or.inl ⟨by omega, by unfold ltT nuT; omega⟩, rfl⟩
    · have g56 := (eqI (x := r55) (y := 0) h56 : (r55 : Int32).toInt = (0 : Int32).toInt)
      have z0_ : (0 : Int32).toInt = 0 := rfl
      refine hB _ _ _ _ _ (fun m60 hm60 => ?_)
      dsimp only [ucgo, ucwp, ucsC, uqC, uoC, ctC, rfd, KX3_isLeftTaken, KX3_isLeftTaken_0, KX3_isLeftTaken_7, KX3_isLeftTaken_11, KX3_isLeftTaken_15, KX3_isLeftTaken_16, KX3_isLeftTaken_17, KX3_isLeftTaken_24, KX3_isLeftTaken_31, KX3_isLeftTaken_35, KX3_isLeftTaken_39, KX3_isLeftTaken_40, lkC, s1C, s2C, dlC, kyC, Nat.beq, Nat.ble, rcd, rno, rsw, Nat.reduceAdd, Nat.reduceBEq, Nat.reduceDiv, List.drop, List.take, List.reverse, List.reverseAux, Int.toNat, Option.toList, List.append, List.cons_append, List.nil_append]
      intro w61 τ61 o61 q61
      obtain ⟨r61, rfl, hr61, rfl⟩ := q61 (N, E, A, B, V, z) ⟨_, rfl⟩
      try dsimp only [Option.toList, List.cons_append, List.nil_append, s1C, s2C, dlC, kyC, Nat.beq, lkC, rcd, rno, rsw]
      refine ⟨fun h62 => ?_, fun h62 => ?_⟩
      · have g62 := (eqI (x := r61) (y := 0) h62 : (r61 : Int32).toInt = (0 : Int32).toInt)
        have z0_ : (0 : Int32).toInt = 0 := rfl
        refine hB _ _ _ _ _ (fun m63 hm63 => ?_)
        dsimp only [ucgo, ucwp, ucsC, uqC, uoC, ctC, rfd, KX3_isLeftTaken, KX3_isLeftTaken_0, KX3_isLeftTaken_7, KX3_isLeftTaken_11, KX3_isLeftTaken_15, KX3_isLeftTaken_16, KX3_isLeftTaken_17, KX3_isLeftTaken_24, KX3_isLeftTaken_31, KX3_isLeftTaken_35, KX3_isLeftTaken_39, KX3_isLeftTaken_40, lkC, s1C, s2C, dlC, kyC, Nat.beq, Nat.ble, rcd, rno, rsw, Nat.reduceAdd, Nat.reduceBEq, Nat.reduceDiv, List.drop, List.take, List.reverse, List.reverseAux, Int.toNat, Option.toList, List.append, List.cons_append, List.nil_append]
        have c64 : (Int32.ofInt 0).toInt = 0 := by decide
        refine hB _ _ _ _ _ (fun m65 hm65 => ?_)
        dsimp only [ucgo, ucwp, ucsC, uqC, uoC, ctC, rfd, KX3_isLeftTaken, KX3_isLeftTaken_0, KX3_isLeftTaken_7, KX3_isLeftTaken_11, KX3_isLeftTaken_15, KX3_isLeftTaken_16, KX3_isLeftTaken_17, KX3_isLeftTaken_24, KX3_isLeftTaken_31, KX3_isLeftTaken_35, KX3_isLeftTaken_39, KX3_isLeftTaken_40, lkC, s1C, s2C, dlC, kyC, Nat.beq, Nat.ble, rcd, rno, rsw, Nat.reduceAdd, Nat.reduceBEq, Nat.reduceDiv, List.drop, List.take, List.reverse, List.reverseAux, Int.toNat, Option.toList, List.append, List.cons_append, List.nil_append]
        try dsimp only [Qz_isLeftTaken]
        exact ⟨_, rfl, Or.inr ⟨by omega, by unfold ltT nuT; omega⟩, rfl⟩
      · have g62 := (neI (x := r61) (y := 0) h62 : ¬ (r61 : Int32).toInt = (0 : Int32).toInt)
        have z0_ : (0 : Int32).toInt = 0 := rfl
        refine hB _ _ _ _ _ (fun m66 hm66 => ?_)
        dsimp only [ucgo, ucwp, ucsC, uqC, uoC, ctC, rfd, KX3_isLeftTaken, KX3_isLeftTaken_0, KX3_isLeftTaken_7, KX3_isLeftTaken_11, KX3_isLeftTaken_15, KX3_isLeftTaken_16, KX3_isLeftTaken_17, KX3_isLeftTaken_24, KX3_isLeftTaken_31, KX3_isLeftTaken_35, KX3_isLeftTaken_39, KX3_isLeftTaken_40, lkC, s1C, s2C, dlC, kyC, Nat.beq, Nat.ble, rcd, rno, rsw, Nat.reduceAdd, Nat.reduceBEq, Nat.reduceDiv, List.drop, List.take, List.reverse, List.reverseAux, Int.toNat, Option.toList, List.append, List.cons_append, List.nil_append]
        refine ⟨fun h67 => ?_, fun h67 => ?_⟩
        · have g67 := (neI (x := p1) (y := 0) h67 : ¬ (p1 : Int32).toInt = (0 : Int32).toInt)
          have z0_ : (0 : Int32).toInt = 0 := rfl
          refine hB _ _ _ _ _ (fun m68 hm68 => ?_)
          dsimp only [ucgo, ucwp, ucsC, uqC, uoC, ctC, rfd, KX3_isLeftTaken, KX3_isLeftTaken_0, KX3_isLeftTaken_7, KX3_isLeftTaken_11, KX3_isLeftTaken_15, KX3_isLeftTaken_16, KX3_isLeftTaken_17, KX3_isLeftTaken_24, KX3_isLeftTaken_31, KX3_isLeftTaken_35, KX3_isLeftTaken_39, KX3_isLeftTaken_40, lkC, s1C, s2C, dlC, kyC, Nat.beq, Nat.ble, rcd, rno, rsw, Nat.reduceAdd, Nat.reduceBEq, Nat.reduceDiv, List.drop, List.take, List.reverse, List.reverseAux, Int.toNat, Option.toList, List.append, List.cons_append, List.nil_append]
          have c69 : (Int32.ofInt 0).toInt = 0 := by decide
          refine hB _ _ _ _ _ (fun m70 hm70 => ?_)
          dsimp only [ucgo, ucwp, ucsC, uqC, uoC, ctC, rfd, KX3_isLeftTaken, KX3_isLeftTaken_0, KX3_isLeftTaken_7, KX3_isLeftTaken_11, KX3_isLeftTaken_15, KX3_isLeftTaken_16, KX3_isLeftTaken_17, KX3_isLeftTaken_24, KX3_isLeftTaken_31, KX3_isLeftTaken_35, KX3_isLeftTaken_39, KX3_isLeftTaken_40, lkC, s1C, s2C, dlC, kyC, Nat.beq, Nat.ble, rcd, rno, rsw, Nat.reduceAdd, Nat.reduceBEq, Nat.reduceDiv, List.drop, List.take, List.reverse, List.reverseAux, Int.toNat, Option.toList, List.append, List.cons_append, List.nil_append]
          try dsimp only [Qz_isLeftTaken]
          exact ⟨_, rfl, Or.inr ⟨by omega, by unfold ltT nuT; omega⟩, rfl⟩
        · have g67 := (eqI (x := p1) (y := 0) h67 : (p1 : Int32).toInt = (0 : Int32).toInt)
          have z0_ : (0 : Int32).toInt = 0 := rfl
          refine hB _ _ _ _ _ (fun m71 hm71 => ?_)
          dsimp only [ucgo, ucwp, ucsC, uqC, uoC, ctC, rfd, KX3_isLeftTaken, KX3_isLeftTaken_0, KX3_isLeftTaken_7, KX3_isLeftTaken_11, KX3_isLeftTaken_15, KX3_isLeftTaken_16, KX3_isLeftTaken_17, KX3_isLeftTaken_24, KX3_isLeftTaken_31, KX3_isLeftTaken_35, KX3_isLeftTaken_39, KX3_isLeftTaken_40, lkC, s1C, s2C, dlC, kyC, Nat.beq, Nat.ble, rcd, rno, rsw, Nat.reduceAdd, Nat.reduceBEq, Nat.reduceDiv, List.drop, List.take, List.reverse, List.reverseAux, Int.toNat, Option.toList, List.append, List.cons_append, List.nil_append]
          have c72 : (Int32.ofInt 1).toInt = 1 := by decide
          refine hB _ _ _ _ _ (fun m73 hm73 => ?_)
          dsimp only [ucgo, ucwp, ucsC, uqC, uoC, ctC, rfd, KX3_isLeftTaken, KX3_isLeftTaken_0, KX3_isLeftTaken_7, KX3_isLeftTaken_11, KX3_isLeftTaken_15, KX3_isLeftTaken_16, KX3_isLeftTaken_17, KX3_isLeftTaken_24, KX3_isLeftTaken_31, KX3_isLeftTaken_35, KX3_isLeftTaken_39, KX3_isLeftTaken_40, lkC, s1C, s2C, dlC, kyC, Nat.beq, Nat.ble, rcd, rno, rsw, Nat.reduceAdd, Nat.reduceBEq, Nat.reduceDiv, List.drop, List.take, List.reverse, List.reverseAux, Int.toNat, Option.toList, List.append, List.cons_append, List.nil_append]
          try dsimp only [Qz_isLeftTaken]
          exact ⟨_, rfl, Or.inl ⟨by omega, by unfold ltT nuT; omega⟩, rfl⟩
  · have g53 := (neI (x := r52) (y := 0) h53 : ¬ (r52 : Int32).toInt = (0 : Int32).toInt)
    have z0_ : (0 : Int32).toInt = 0 := rfl
    refine hB _ _ _ _ _ (fun m74 hm74 => ?_)
    dsimp only [ucgo, ucwp, ucsC, uqC, uoC, ctC, rfd, KX3_isLeftTaken, KX3_isLeftTaken_0, KX3_isLeftTaken_7, KX3_isLeftTaken_11, KX3_isLeftTaken_15, KX3_isLeftTaken_16, KX3_isLeftTaken_17, KX3_isLeftTaken_24, KX3_isLeftTaken_31, KX3_isLeftTaken_35, KX3_isLeftTaken_39, KX3_isLeftTaken_40, lkC, s1C, s2C, dlC, kyC, Nat.beq, Nat.ble, rcd, rno, rsw, Nat.reduceAdd, Nat.reduceBEq, Nat.reduceDiv, List.drop, List.take, List.reverse, List.reverseAux, Int.toNat, Option.toList, List.append, List.cons_append, List.nil_append]
    refine ⟨fun h75 => ?_, fun h75 => ?_⟩
    · have g75 := (neI (x := p1) (y := 0) h75 : ¬ (p1 : Int32).toInt = (0 : Int32).toInt)
      have z0_ : (0 : Int32).toInt = 0 := rfl
      refine hB _ _ _ _ _ (fun m76 hm76 => ?_)
      dsimp only [ucgo, ucwp, ucsC, uqC, uoC, ctC, rfd, KX3_isLeftTaken, KX3_isLeftTaken_0, KX3_isLeftTaken_7, KX3_isLeftTaken_11, KX3_isLeftTaken_15, KX3_isLeftTaken_16, KX3_isLeftTaken_17, KX3_isLeftTaken_24, KX3_isLeftTaken_31, KX3_isLeftTaken_35, KX3_isLeftTaken_39, KX3_isLeftTaken_40, lkC, s1C, s2C, dlC, kyC, Nat.beq, Nat.ble, rcd, rno, rsw, Nat.reduceAdd, Nat.reduceBEq, Nat.reduceDiv, List.drop, List.take, List.reverse, List.reverseAux, Int.toNat, Option.toList, List.append, List.cons_append, List.nil_append]
      have c77 : (Int32.ofInt 0).toInt = 0 := by decide
      refine hB _ _ _ _ _ (fun m78 hm78 => ?_)
      dsimp only [ucgo, ucwp, ucsC, uqC, uoC, ctC, rfd, KX3_isLeftTaken, KX3_isLeftTaken_0, KX3_isLeftTaken_7, KX3_isLeftTaken_11, KX3_isLeftTaken_15, KX3_isLeftTaken_16, KX3_isLeftTaken_17, KX3_isLeftTaken_24, KX3_isLeftTaken_31, KX3_isLeftTaken_35, KX3_isLeftTaken_39, KX3_isLeftTaken_40, lkC, s1C, s2C, dlC, kyC, Nat.beq, Nat.ble, rcd, rno, rsw, Nat.reduceAdd, Nat.reduceBEq, Nat.reduceDiv, List.drop, List.take, List.reverse, List.reverseAux, Int.toNat, Option.toList, List.append, List.cons_append, List.nil_append]
      try dsimp only [Qz_isLeftTaken]
      exact ⟨_, rfl, Or.inr ⟨by omega, by unfold ltT nuT; omega⟩, rfl⟩
    · have g75 := (eqI (x := p1) (y := 0) h75 : (p1 : Int32).toInt = (0 : Int32).toInt)
      have z0_ : (0 : Int32).toInt = 0 := rfl
      refine hB _ _ _ _ _ (fun m79 hm79 => ?_)
      dsimp only [ucgo, ucwp, ucsC, uqC, uoC, ctC, rfd, KX3_isLeftTaken, KX3_isLeftTaken_0, KX3_isLeftTaken_7, KX3_isLeftTaken_11, KX3_isLeftTaken_15, KX3_isLeftTaken_16, KX3_isLeftTaken_17, KX3_isLeftTaken_24, KX3_isLeftTaken_31, KX3_isLeftTaken_35, KX3_isLeftTaken_39, KX3_isLeftTaken_40, lkC, s1C, s2C, dlC, kyC, Nat.beq, Nat.ble, rcd, rno, rsw, Nat.reduceAdd, Nat.reduceBEq, Nat.reduceDiv, List.drop, List.take, List.reverse, List.reverseAux, Int.toNat, Option.toList, List.append, List.cons_append, List.nil_append]
      have c80 : (Int32.ofInt 1).toInt = 1 := by decide
      refine hB _ _ _ _ _ (fun m81 hm81 => ?_)
      dsimp only [ucgo, ucwp, ucsC, uqC, uoC, ctC, rfd, KX3_isLeftTaken, KX3_isLeftTaken_0, KX3_isLeftTaken_7, KX3_isLeftTaken_11, KX3_isLeftTaken_15, KX3_isLeftTaken_16, KX3_isLeftTaken_17, KX3_isLeftTaken_24, KX3_isLeftTaken_31, KX3_isLeftTaken_35, KX3_isLeftTaken_39, KX3_isLeftTaken_40, lkC, s1C, s2C, dlC, kyC, Nat.beq, Nat.ble, rcd, rno, rsw, Nat.reduceAdd, Nat.reduceBEq, Nat.reduceDiv, List.drop, List.take, List.reverse, List.reverseAux, Int.toNat, Option.toList, List.append, List.cons_append, List.nil_append]
      try dsimp only [Qz_isLeftTaken]
      exact ⟨_, rfl, Or.inl ⟨by omega, by unfold ltT nuT; omega⟩, rfl⟩
theorem wz_isLeftTaken : ∀ (L : Nat) (As : List AvC) (σ : CsC) (w : Option AvC) (τ : CsC), EvF L 66 As σ w τ → Uz_isLeftTaken As σ w τ := by
  intro L
  cases L with
  | zero => exact fun _ _ _ _ h => h.elim
  | succ L => exact fun As σ w τ h y hy => EvF.us (cs := [64, 223, 65]) (pz_isLeftTaken y) rfl (List.forall_mem_cons.2 ⟨wz_isLogical L, List.forall_mem_cons.2 ⟨wz_isNumber L, List.forall_mem_cons.2 ⟨wz_takesBoth L, fun _ h => absurd h List.not_mem_nil⟩⟩⟩) h hy
abbrev Pz_isRightTaken : ((Int → Int) × (Nat → Nat) × (Nat → Nat) × (Nat → Nat) × (Nat → Nat) × ZS) → CpC := fun y As σ => match y with
  | (N, E, A, B, V, z) => ∃ (p0 : Int32) (p1 : Int32) (p2 : Int32), As = [.inl p0, .inl p1, .inl p2]
abbrev Qz_isRightTaken : ((Int → Int) × (Nat → Nat) × (Nat → Nat) × (Nat → Nat) × (Nat → Nat) × ZS) → CqC := fun y As σ w τ => match y, As with
  | (N, E, A, B, V, z), [.inl p0, .inl p1, .inl p2] => ∃ r, w = some (.inl r) ∧ ((r.toInt = 1 ∧ (rtT p1.toInt p2.toInt)) ∨ (r.toInt = 0 ∧ ¬ (rtT p1.toInt p2.toInt))) ∧ σ = τ
  | _, _ => True
abbrev Uz_isRightTaken : CqC := fun As σ w τ => ∀ y, Pz_isRightTaken y As σ → Qz_isRightTaken y As σ w τ
set_option maxHeartbeats 4000000 in
theorem pz_isRightTaken (y : (Int → Int) × (Nat → Nat) × (Nat → Nat) × (Nat → Nat) × (Nat → Nat) × ZS) : PbC KX3_isRightTaken [(223, TrP, EqC 223)] [(223, Uz_isNumber)] (fun As σ => Pz_isRightTaken y As σ ∧ cnC σ ≤ 1000000 ∧ ∃ w τ, uqC quL 67 As σ w τ) (Qz_isRightTaken y) := by
  obtain ⟨N, E, A, B, V, z⟩ := y
  rintro As σ ⟨⟨p0, p1, p2, rfl⟩, hcn, _, _, hQ⟩ K hB hW n_
  change K n_ 0 [(0, .inl p0), (1, .inl p1), (2, .inl p2)] [] σ
  refine hB _ _ _ _ _ (fun m51 hm51 => ?_)
  dsimp only [ucgo, ucwp, ucsC, uqC, uoC, ctC, rfd, KX3_isRightTaken, KX3_isRightTaken_0, KX3_isRightTaken_4, KX3_isRightTaken_8, KX3_isRightTaken_12, KX3_isRightTaken_16, KX3_isRightTaken_20, lkC, s1C, s2C, dlC, kyC, Nat.beq, Nat.ble, rcd, rno, rsw, Nat.reduceAdd, Nat.reduceBEq, Nat.reduceDiv, List.drop, List.take, List.reverse, List.reverseAux, Int.toNat, Option.toList, List.append, List.cons_append, List.nil_append]
  refine ⟨fun h52 => ?_, fun h52 => ?_⟩
  · have g52 := (neI (x := p1) (y := 0) h52 : ¬ (p1 : Int32).toInt = (0 : Int32).toInt)
    have z0_ : (0 : Int32).toInt = 0 := rfl
    refine hB _ _ _ _ _ (fun m53 hm53 => ?_)
    dsimp only [ucgo, ucwp, ucsC, uqC, uoC, ctC, rfd, KX3_isRightTaken, KX3_isRightTaken_0, KX3_isRightTaken_4, KX3_isRightTaken_8, KX3_isRightTaken_12, KX3_isRightTaken_16, KX3_isRightTaken_20, lkC, s1C, s2C, dlC, kyC, Nat.beq, Nat.ble, rcd, rno, rsw, Nat.reduceAdd, Nat.reduceBEq, Nat.reduceDiv, List.drop, List.take, List.reverse, List.reverseAux, Int.toNat, Option.toList, List.append, List.cons_append, List.nil_append]
    intro w54 τ54 o54 q54
    obtain ⟨r54, rfl, hr54, rfl⟩ := q54 (N, E, A, B, V, z) ⟨_, rfl⟩
    try dsimp only [Option.toList, List.cons_append, List.nil_append, s1C, s2C, dlC, kyC, Nat.beq, lkC, rcd, rno, rsw]
    refine hB _ _ _ _ _ (fun m55 hm55 => ?_)
    dsimp only [ucgo, ucwp, ucsC, uqC, uoC, ctC, rfd, KX3_isRightTaken, KX3_isRightTaken_0, KX3_isRightTaken_4, KX3_isRightTaken_8, KX3_isRightTaken_12, KX3_isRightTaken_16, KX3_isRightTaken_20, lkC, s1C, s2C, dlC, kyC, Nat.beq, Nat.ble, rcd, rno, rsw, Nat.reduceAdd, Nat.reduceBEq, Nat.reduceDiv, List.drop, List.take, List.reverse, List.reverseAux, Int.toNat, Option.toList, List.append, List.cons_append, List.nil_append]
    try dsimp only [Qz_isRightTaken]
    refine ⟨_, rfl, ?_, rfl⟩
    rcases hr54 with q9 | q9
    · exact Or.inl ⟨q9.1, by unfold rtT nuT; omega⟩
    · exact Or.inr ⟨q9.1, by unfold rtT nuT; omega⟩
  · have g52 := (eqI (x := p1) (y := 0) h52 : (p1 : Int32).toInt = (0 : Int32).toInt)
    have z0_ : (0 : Int32).toInt = 0 := rfl
    refine hB _ _ _ _ _ (fun m56 hm56 => ?_)
    dsimp only [ucgo, ucwp, ucsC, uqC, uoC, ctC, rfd, KX3_isRightTaken, KX3_isRightTaken_0, KX3_isRightTaken_4, KX3_isRightTaken_8, KX3_isRightTaken_12, KX3_isRightTaken_16, KX3_isRightTaken_20, lkC, s1C, s2C, dlC, kyC, Nat.beq, Nat.ble, rcd, rno, rsw, Nat.reduceAdd, Nat.reduceBEq, Nat.reduceDiv, List.drop, List.take, List.reverse, List.reverseAux, Int.toNat, Option.toList, List.append, List.cons_append, List.nil_append]
    refine ⟨fun h57 => ?_, fun h57 => ?_⟩
    · have g57 := (neI (x := p2) (y := 0) h57 : ¬ (p2 : Int32).toInt = (0 : Int32).toInt)
      have z0_ : (0 : Int32).toInt = 0 := rfl
      refine hB _ _ _ _ _ (fun m58 hm58 => ?_)
      dsimp only [ucgo, ucwp, ucsC, uqC, uoC, ctC, rfd, KX3_isRightTaken, KX3_isRightTaken_0, KX3_isRightTaken_4, KX3_isRightTaken_8, KX3_isRightTaken_12, KX3_isRightTaken_16, KX3_isRightTaken_20, lkC, s1C, s2C, dlC, kyC, Nat.beq, Nat.ble, rcd, rno, rsw, Nat.reduceAdd, Nat.reduceBEq, Nat.reduceDiv, List.drop, List.take, List.reverse, List.reverseAux, Int.toNat, Option.toList, List.append, List.cons_append, List.nil_append]
      have c59 : (Int32.ofInt 0).toInt = 0 := by decide
      refine hB _ _ _ _ _ (fun m60 hm60 => ?_)
      dsimp only [ucgo, ucwp, ucsC, uqC, uoC, ctC, rfd, KX3_isRightTaken, KX3_isRightTaken_0, KX3_isRightTaken_4, KX3_isRightTaken_8, KX3_isRightTaken_12, KX3_isRightTaken_16, KX3_isRightTaken_20, lkC, s1C, s2C, dlC, kyC, Nat.beq, Nat.ble, rcd, rno, rsw, Nat.reduceAdd, Nat.reduceBEq, Nat.reduceDiv, List.drop, List.take, List.reverse, List.reverseAux, Int.toNat, Option.toList, List.append, List.cons_append, List.nil_append]
      try dsimp only [Qz_isRightTaken]
      exact ⟨_, rfl, Or.inr ⟨by omega, by unfold rtT nuT; omega⟩, rfl⟩
    · have g57 := (eqI (x := p2) (y := 0) h57 : (p2 : Int32).toInt = (0 : Int32).toInt)
      have z0_ : (0 : Int32).toInt = 0 := rfl
      refine hB _ _ _ _ _ (fun m61 hm61 => ?_)
      dsimp only [ucgo, ucwp, ucsC, uqC, uoC, ctC, rfd, KX3_isRightTaken, KX3_isRightTaken_0, KX3_isRightTaken_4, KX3_isRightTaken_8, KX3_isRightTaken_12, KX3_isRightTaken_16, KX3_isRightTaken_20, lkC, s1C, s2C, dlC, kyC, Nat.beq, Nat.ble, rcd, rno, rsw, Nat.reduceAdd, Nat.reduceBEq, Nat.reduceDiv, List.drop, List.take, List.reverse, List.reverseAux, Int.toNat, Option.toList, List.append, List.cons_append, List.nil_append]
      have c62 : (Int32.ofInt 1).toInt = 1 := by decide
      refine hB _ _ _ _ _ (fun m63 hm63 => ?_)
      dsimp only [ucgo, ucwp, ucsC, uqC, uoC, ctC, rfd, KX3_isRightTaken, KX3_isRightTaken_0, KX3_isRightTaken_4, KX3_isRightTaken_8, KX3_isRightTaken_12, KX3_isRightTaken_16, KX3_isRightTaken_20, lkC, s1C, s2C, dlC, kyC, Nat.beq, Nat.ble, rcd, rno, rsw, Nat.reduceAdd, Nat.reduceBEq, Nat.reduceDiv, List.drop, List.take, List.reverse, List.reverseAux, Int.toNat, Option.toList, List.append, List.cons_append, List.nil_append]
      try dsimp only [Qz_isRightTaken]
      exact ⟨_, rfl, Or.inl ⟨by omega, by unfold rtT nuT; omega⟩, rfl⟩
theorem wz_isRightTaken : ∀ (L : Nat) (As : List AvC) (σ : CsC) (w : Option AvC) (τ : CsC), EvF L 67 As σ w τ → Uz_isRightTaken As σ w τ := by
  intro L
  cases L with
  | zero => exact fun _ _ _ _ h => h.elim
  | succ L => exact fun As σ w τ h y hy => EvF.us (cs := [223]) (pz_isRightTaken y) rfl (List.forall_mem_cons.2 ⟨wz_isNumber L, fun _ h => absurd h List.not_mem_nil⟩) h hy
abbrev Pz_promoted : ((Int → Int) × (Nat → Nat) × (Nat → Nat) × (Nat → Nat) × (Nat → Nat) × ZS) → CpC := fun y As σ => match y with
  | (N, E, A, B, V, z) => ∃ (p0 : Int32), As = [.inl p0]
abbrev Qz_promoted : ((Int → Int) × (Nat → Nat) × (Nat → Nat) × (Nat → Nat) × (Nat → Nat) × ZS) → CqC := fun y As σ w τ => match y, As with
  | (N, E, A, B, V, z), [.inl p0] => ∃ r, w = some (.inl r) ∧ r.toInt = pmT p0.toInt ∧ σ = τ
  | _, _ => True
abbrev Uz_promoted : CqC := fun As σ w τ => ∀ y, Pz_promoted y As σ → Qz_promoted y As σ w τ
set_option maxHeartbeats 4000000 in
theorem pz_promoted (y : (Int → Int) × (Nat → Nat) × (Nat → Nat) × (Nat → Nat) × (Nat → Nat) × ZS) : PbC KX3_promoted [] [] (fun As σ => Pz_promoted y As σ ∧ cnC σ ≤ 1000000 ∧ ∃ w τ, uqC quL 58 As σ w τ) (Qz_promoted y) := by
  obtain ⟨N, E, A, B, V, z⟩ := y
  rintro As σ ⟨⟨p0, rfl⟩, hcn, _, _, hQ⟩ K hB hW n_
  change K n_ 0 [(0, .inl p0)] [] σ
  refine hB _ _ _ _ _ (fun m51 hm51 => ?_)
  dsimp only [ucgo, ucwp, ucsC, uqC, uoC, ctC, rfd, KX3_promoted, KX3_promoted_0, KX3_promoted_5, KX3_promoted_9, KX3_promoted_10, lkC, s1C, s2C, dlC, kyC, Nat.beq, Nat.ble, rcd, rno, rsw, Nat.reduceAdd, Nat.reduceBEq, Nat.reduceDiv, List.drop, List.take, List.reverse, List.reverseAux, Int.toNat, Option.toList, List.append, List.cons_append, List.nil_append]
  have c52 : (Int32.ofInt 4).toInt = 4 := by decide
  refine ⟨fun h53 => ?_, fun h53 => ?_⟩
  · have g53 := (neI (x := p0) (y := (Int32.ofInt 4)) h53 : ¬ (p0 : Int32).toInt = ((Int32.ofInt 4) : Int32).toInt)
    refine hB _ _ _ _ _ (fun m54 hm54 => ?_)
    dsimp only [ucgo, ucwp, ucsC, uqC, uoC, ctC, rfd, KX3_promoted, KX3_promoted_0, KX3_promoted_5, KX3_promoted_9, KX3_promoted_10, lkC, s1C, s2C, dlC, kyC, Nat.beq, Nat.ble, rcd, rno, rsw, Nat.reduceAdd, Nat.reduceBEq, Nat.reduceDiv, List.drop, List.take, List.reverse, List.reverseAux, Int.toNat, Option.toList, List.append, List.cons_append, List.nil_append]
    have c55 : (Int32.ofInt 3).toInt = 3 := by decide
    refine hB _ _ _ _ _ (fun m56 hm56 => ?_)
    dsimp only [ucgo, ucwp, ucsC, uqC, uoC, ctC, rfd, KX3_promoted, KX3_promoted_0, KX3_promoted_5, KX3_promoted_9, KX3_promoted_10, lkC, s1C, s2C, dlC, kyC, Nat.beq, Nat.ble, rcd, rno, rsw, Nat.reduceAdd, Nat.reduceBEq, Nat.reduceDiv, List.drop, List.take, List.reverse, List.reverseAux, Int.toNat, Option.toList, List.append, List.cons_append, List.nil_append]
    try dsimp only [Qz_promoted]
    refine ⟨_, rfl, ?_, rfl⟩
    unfold pmT
    repeat' split
    all_goals omega
  · have g53 := (eqI (x := p0) (y := (Int32.ofInt 4)) h53 : (p0 : Int32).toInt = ((Int32.ofInt 4) : Int32).toInt)
    refine hB _ _ _ _ _ (fun m57 hm57 => ?_)
    dsimp only [ucgo, ucwp, ucsC, uqC, uoC, ctC, rfd, KX3_promoted, KX3_promoted_0, KX3_promoted_5, KX3_promoted_9, KX3_promoted_10, lkC, s1C, s2C, dlC, kyC, Nat.beq, Nat.ble, rcd, rno, rsw, Nat.reduceAdd, Nat.reduceBEq, Nat.reduceDiv, List.drop, List.take, List.reverse, List.reverseAux, Int.toNat, Option.toList, List.append, List.cons_append, List.nil_append]
    have c58 : (Int32.ofInt 4).toInt = 4 := by decide
    refine hB _ _ _ _ _ (fun m59 hm59 => ?_)
    dsimp only [ucgo, ucwp, ucsC, uqC, uoC, ctC, rfd, KX3_promoted, KX3_promoted_0, KX3_promoted_5, KX3_promoted_9, KX3_promoted_10, lkC, s1C, s2C, dlC, kyC, Nat.beq, Nat.ble, rcd, rno, rsw, Nat.reduceAdd, Nat.reduceBEq, Nat.reduceDiv, List.drop, List.take, List.reverse, List.reverseAux, Int.toNat, Option.toList, List.append, List.cons_append, List.nil_append]
    try dsimp only [Qz_promoted]
    refine ⟨_, rfl, ?_, rfl⟩
    unfold pmT
    repeat' split
    all_goals omega
theorem wz_promoted : ∀ (L : Nat) (As : List AvC) (σ : CsC) (w : Option AvC) (τ : CsC), EvF L 58 As σ w τ → Uz_promoted As σ w τ := by
  intro L
  cases L with
  | zero => exact fun _ _ _ _ h => h.elim
  | succ L => exact fun As σ w τ h y hy => EvF.us (cs := []) (pz_promoted y) rfl (fun _ h => absurd h List.not_mem_nil) h hy
abbrev Pz_workType : ((Int → Int) × (Nat → Nat) × (Nat → Nat) × (Nat → Nat) × (Nat → Nat) × ZS) → CpC := fun y As σ => match y with
  | (N, E, A, B, V, z) => ∃ (p0 : Int32) (p1 : Int32) (p2 : Int32), As = [.inl p0, .inl p1, .inl p2]
abbrev Qz_workType : ((Int → Int) × (Nat → Nat) × (Nat → Nat) × (Nat → Nat) × (Nat → Nat) × ZS) → CqC := fun y As σ w τ => match y, As with
  | (N, E, A, B, V, z), [.inl p0, .inl p1, .inl p2] => ∃ r, w = some (.inl r) ∧ r.toInt = wrT p0.toInt p1.toInt p2.toInt ∧ σ = τ
  | _, _ => True
abbrev Uz_workType : CqC := fun As σ w τ => ∀ y, Pz_workType y As σ → Qz_workType y As σ w τ
set_option maxHeartbeats 4000000 in
theorem pz_workType (y : (Int → Int) × (Nat → Nat) × (Nat → Nat) × (Nat → Nat) × (Nat → Nat) × ZS) : PbC KX3_workType [(58, TrP, EqC 58)] [(58, Uz_promoted)] (fun As σ => Pz_workType y As σ ∧ cnC σ ≤ 1000000 ∧ ∃ w τ, uqC quL 68 As σ w τ) (Qz_workType y) := by
  obtain ⟨N, E, A, B, V, z⟩ := y
  rintro As σ ⟨⟨p0, p1, p2, rfl⟩, hcn, _, _, hQ⟩ K hB hW n_
  change K n_ 0 [(0, .inl p0), (1, .inl p1), (2, .inl p2)] [] σ
  refine hB _ _ _ _ _ (fun m51 hm51 => ?_)
  dsimp only [ucgo, ucwp, ucsC, uqC, uoC, ctC, rfd, KX3_workType, KX3_workType_0, KX3_workType_4, KX3_workType_6, KX3_workType_12, KX3_workType_18, KX3_workType_23, KX3_workType_28, KX3_workType_33, KX3_workType_37, KX3_workType_38, lkC, s1C, s2C, dlC, kyC, Nat.beq, Nat.ble, rcd, rno, rsw, Nat.reduceAdd, Nat.reduceBEq, Nat.reduceDiv, List.drop, List.take, List.reverse, List.reverseAux, Int.toNat, Option.toList, List.append, List.cons_append, List.nil_append]
  refine ⟨fun h52 => ?_, fun h52 => ?_⟩
  · have g52 := (neI (x := p1) (y := 0) h52 : ¬ (p1 : Int32).toInt = (0 : Int32).toInt)
    have z0_ : (0 : Int32).toInt = 0 := rfl
    refine hB _ _ _ _ _ (fun m53 hm53 => ?_)
    dsimp only [ucgo, ucwp, ucsC, uqC, uoC, ctC, rfd, KX3_workType, KX3_workType_0, KX3_workType_4, KX3_workType_6, KX3_workType_12, KX3_workType_18, KX3_workType_23, KX3_workType_28, KX3_workType_33, KX3_workType_37, KX3_workType_38, lkC, s1C, s2C, dlC, kyC, Nat.beq, Nat.ble, rcd, rno, rsw, Nat.reduceAdd, Nat.reduceBEq, Nat.reduceDiv, List.drop, List.take, List.reverse, List.reverseAux, Int.toNat, Option.toList, List.append, List.cons_append, List.nil_append]
    have c54 : (Int32.ofInt 31).toInt = 31 := by decide
    refine ⟨fun h55 => ?_, fun h55 => ?_⟩
    · have g55 := ltI (x := p0) (y := (Int32.ofInt 31)) h55
      refine hB _ _ _ _ _ (fun m56 hm56 => ?_)
      dsimp only [ucgo, ucwp, ucsC, uqC, uoC, ctC, rfd, KX3_workType, KX3_workType_0, KX3_workType_4, KX3_workType_6, KX3_workType_12, KX3_workType_18, KX3_workType_23, KX3_workType_28, KX3_workType_33, KX3_workType_37, KX3_workType_38, lkC, s1C, s2C, dlC, kyC, Nat.beq, Nat.ble, rcd, rno, rsw, Nat.reduceAdd, Nat.reduceBEq, Nat.reduceDiv, List.drop, List.take, List.reverse, List.reverseAux, Int.toNat, Option.toList, List.append, List.cons_append, List.nil_append]
      have c57 : (Int32.ofInt 4).toInt = 4 := by decide
      refine ⟨fun h58 => ?_, fun h58 => ?_⟩
      · have g58 := (eqI (x := p1) (y := (Int32.ofInt 4)) h58 : (p1 : Int32).toInt = ((Int32.ofInt 4) : Int32).toInt)
        refine hB _ _ _ _ _ (fun m59 hm59 => ?_)
        dsimp only [ucgo, ucwp, ucsC, uqC, uoC, ctC, rfd, KX3_workType, KX3_workType_0, KX3_workType_4, KX3_workType_6, KX3_workType_12, KX3_workType_18, KX3_workType_23, KX3_workType_28, KX3_workType_33, KX3_workType_37, KX3_workType_38, lkC, s1C, s2C, dlC, kyC, Nat.beq, Nat.ble, rcd, rno, rsw, Nat.reduceAdd, Nat.reduceBEq, Nat.reduceDiv, List.drop, List.take, List.reverse, List.reverseAux, Int.toNat, Option.toList, List.append, List.cons_append, List.nil_append]
        have c60 : (Int32.ofInt 4).toInt = 4 := by decide
        refine hB _ _ _ _ _ (fun m61 hm61 => ?_)
        dsimp only [ucgo, ucwp, ucsC, uqC, uoC, ctC, rfd, KX3_workType, KX3_workType_0, KX3_workType_4, KX3_workType_6, KX3_workType_12, KX3_workType_18, KX3_workType_23, KX3_workType_28, KX3_workType_33, KX3_workType_37, KX3_workType_38, lkC, s1C, s2C, dlC, kyC, Nat.beq, Nat.ble, rcd, rno, rsw, Nat.reduceAdd, Nat.reduceBEq, Nat.reduceDiv, List.drop, List.take, List.reverse, List.reverseAux, Int.toNat, Option.toList, List.append, List.cons_append, List.nil_append]
        try dsimp only [Qz_workType]
        refine ⟨_, rfl, ?_, rfl⟩
        unfold wrT pmT at *
        repeat' split
        all_goals omega
      · have g58 := (neI (x := p1) (y := (Int32.ofInt 4)) h58 : ¬ (p1 : Int32).toInt = ((Int32.ofInt 4) : Int32).toInt)
        refine hB _ _ _ _ _ (fun m62 hm62 => ?_)
        dsimp only [ucgo, ucwp, ucsC, uqC, uoC, ctC, rfd, KX3_workType, KX3_workType_0, KX3_workType_4, KX3_workType_6, KX3_workType_12, KX3_workType_18, KX3_workType_23, KX3_workType_28, KX3_workType_33, KX3_workType_37, KX3_workType_38, lkC, s1C, s2C, dlC, kyC, Nat.beq, Nat.ble, rcd, rno, rsw, Nat.reduceAdd, Nat.reduceBEq, Nat.reduceDiv, List.drop, List.take, List.reverse, List.reverseAux, Int.toNat, Option.toList, List.append, List.cons_append, List.nil_append]
        have c63 : (Int32.ofInt 4).toInt = 4 := by decide
        refine ⟨fun h64 => ?_, fun h64 => ?_⟩
        · have g64 := (neI (x := p2) (y := (Int32.ofInt 4)) h64 : ¬ (p2 : Int32).toInt = ((Int32.ofInt 4) : Int32).toInt)
          refine hB _ _ _ _ _ (fun m65 hm65 => ?_)
          dsimp only [ucgo, ucwp, ucsC, uqC, uoC, ctC, rfd, KX3_workType, KX3_workType_0, KX3_workType_4, KX3_workType_6, KX3_workType_12, KX3_workType_18, KX3_workType_23, KX3_workType_28, KX3_workType_33, KX3_workType_37, KX3_workType_38, lkC, s1C, s2C, dlC, kyC, Nat.beq, Nat.ble, rcd, rno, rsw, Nat.reduceAdd, Nat.reduceBEq, Nat.reduceDiv, List.drop, List.take, List.reverse, List.reverseAux, Int.toNat, Option.toList, List.append, List.cons_append, List.nil_append]
          have c66 : (Int32.ofInt 3).toInt = 3 := by decide
          refine hB _ _ _ _ _ (fun m67 hm67 => ?_)
          dsimp only [ucgo, ucwp, ucsC, uqC, uoC, ctC, rfd, KX3_workType, KX3_workType_0, KX3_workType_4, KX3_workType_6, KX3_workType_12, KX3_workType_18, KX3_workType_23, KX3_workType_28, KX3_workType_33, KX3_workType_37, KX3_workType_38, lkC, s1C, s2C, dlC, kyC, Nat.beq, Nat.ble, rcd, rno, rsw, Nat.reduceAdd, Nat.reduceBEq, Nat.reduceDiv, List.drop, List.take, List.reverse, List.reverseAux, Int.toNat, Option.toList, List.append, List.cons_append, List.nil_append]
          try dsimp only [Qz_workType]
          refine ⟨_, rfl, ?_, rfl⟩
          unfold wrT pmT at *
          repeat' split
          all_goals omega
        · have g64 := (eqI (x := p2) (y := (Int32.ofInt 4)) h64 : (p2 : Int32).toInt = ((Int32.ofInt 4) : Int32).toInt)
          refine hB _ _ _ _ _ (fun m68 hm68 => ?_)
          dsimp only [ucgo, ucwp, ucsC, uqC, uoC, ctC, rfd, KX3_workType, KX3_workType_0, KX3_workType_4, KX3_workType_6, KX3_workType_12, KX3_workType_18, KX3_workType_23, KX3_workType_28, KX3_workType_33, KX3_workType_37, KX3_workType_38, lkC, s1C, s2C, dlC, kyC, Nat.beq, Nat.ble, rcd, rno, rsw, Nat.reduceAdd, Nat.reduceBEq, Nat.reduceDiv, List.drop, List.take, List.reverse, List.reverseAux, Int.toNat, Option.toList, List.append, List.cons_append, List.nil_append]
          have c69 : (Int32.ofInt 4).toInt = 4 := by decide
          refine hB _ _ _ _ _ (fun m70 hm70 => ?_)
          dsimp only [ucgo, ucwp, ucsC, uqC, uoC, ctC, rfd, KX3_workType, KX3_workType_0, KX3_workType_4, KX3_workType_6, KX3_workType_12, KX3_workType_18, KX3_workType_23, KX3_workType_28, KX3_workType_33, KX3_workType_37, KX3_workType_38, lkC, s1C, s2C, dlC, kyC, Nat.beq, Nat.ble, rcd, rno, rsw, Nat.reduceAdd, Nat.reduceBEq, Nat.reduceDiv, List.drop, List.take, List.reverse, List.reverseAux, Int.toNat, Option.toList, List.append, List.cons_append, List.nil_append]
          try dsimp only [Qz_workType]
          refine ⟨_, rfl, ?_, rfl⟩
          unfold wrT pmT at *
          repeat' split
          all_goals omega
    · have g55 := nltI (x := p0) (y := (Int32.ofInt 31)) h55
      refine hB _ _ _ _ _ (fun m71 hm71 => ?_)
      dsimp only [ucgo, ucwp, ucsC, uqC, uoC, ctC, rfd, KX3_workType, KX3_workType_0, KX3_workType_4, KX3_workType_6, KX3_workType_12, KX3_workType_18, KX3_workType_23, KX3_workType_28, KX3_workType_33, KX3_workType_37, KX3_workType_38, lkC, s1C, s2C, dlC, kyC, Nat.beq, Nat.ble, rcd, rno, rsw, Nat.reduceAdd, Nat.reduceBEq, Nat.reduceDiv, List.drop, List.take, List.reverse, List.reverseAux, Int.toNat, Option.toList, List.append, List.cons_append, List.nil_append]
      have c72 : (Int32.ofInt 33).toInt = 33 := by decide
      refine ⟨fun h73 => ?_, fun h73 => ?_⟩
      · have g73 := ltI (x := (Int32.ofInt 33)) (y := p0) h73
        refine hB _ _ _ _ _ (fun m74 hm74 => ?_)
        dsimp only [ucgo, ucwp, ucsC, uqC, uoC, ctC, rfd, KX3_workType, KX3_workType_0, KX3_workType_4, KX3_workType_6, KX3_workType_12, KX3_workType_18, KX3_workType_23, KX3_workType_28, KX3_workType_33, KX3_workType_37, KX3_workType_38, lkC, s1C, s2C, dlC, kyC, Nat.beq, Nat.ble, rcd, rno, rsw, Nat.reduceAdd, Nat.reduceBEq, Nat.reduceDiv, List.drop, List.take, List.reverse, List.reverseAux, Int.toNat, Option.toList, List.append, List.cons_append, List.nil_append]
        have c75 : (Int32.ofInt 4).toInt = 4 := by decide
        refine ⟨fun h76 => ?_, fun h76 => ?_⟩
        · have g76 := (eqI (x := p1) (y := (Int32.ofInt 4)) h76 : (p1 : Int32).toInt = ((Int32.ofInt 4) : Int32).toInt)
          refine hB _ _ _ _ _ (fun m77 hm77 => ?_)
          dsimp only [ucgo, ucwp, ucsC, uqC, uoC, ctC, rfd, KX3_workType, KX3_workType_0, KX3_workType_4, KX3_workType_6, KX3_workType_12, KX3_workType_18, KX3_workType_23, KX3_workType_28, KX3_workType_33, KX3_workType_37, KX3_workType_38, lkC, s1C, s2C, dlC, kyC, Nat.beq, Nat.ble, rcd, rno, rsw, Nat.reduceAdd, Nat.reduceBEq, Nat.reduceDiv, List.drop, List.take, List.reverse, List.reverseAux, Int.toNat, Option.toList, List.append, List.cons_append, List.nil_append]
          have c78 : (Int32.ofInt 4).toInt = 4 := by decide
          refine hB _ _ _ _ _ (fun m79 hm79 => ?_)
          dsimp only [ucgo, ucwp, ucsC, uqC, uoC, ctC, rfd, KX3_workType, KX3_workType_0, KX3_workType_4, KX3_workType_6, KX3_workType_12, KX3_workType_18, KX3_workType_23, KX3_workType_28, KX3_workType_33, KX3_workType_37, KX3_workType_38, lkC, s1C, s2C, dlC, kyC, Nat.beq, Nat.ble, rcd, rno, rsw, Nat.reduceAdd, Nat.reduceBEq, Nat.reduceDiv, List.drop, List.take, List.reverse, List.reverseAux, Int.toNat, Option.toList, List.append, List.cons_append, List.nil_append]
          try dsimp only [Qz_workType]
          refine ⟨_, rfl, ?_, rfl⟩
          unfold wrT pmT at *
          repeat' split
          all_goals omega
        · have g76 := (neI (x := p1) (y := (Int32.ofInt 4)) h76 : ¬ (p1 : Int32).toInt = ((Int32.ofInt 4) : Int32).toInt)
          refine hB _ _ _ _ _ (fun m80 hm80 => ?_)
          dsimp only [ucgo, ucwp, ucsC, uqC, uoC, ctC, rfd, KX3_workType, KX3_workType_0, KX3_workType_4, KX3_workType_6, KX3_workType_12, KX3_workType_18, KX3_workType_23, KX3_workType_28, KX3_workType_33, KX3_workType_37, KX3_workType_38, lkC, s1C, s2C, dlC, kyC, Nat.beq, Nat.ble, rcd, rno, rsw, Nat.reduceAdd, Nat.reduceBEq, Nat.reduceDiv, List.drop, List.take, List.reverse, List.reverseAux, Int.toNat, Option.toList, List.append, List.cons_append, List.nil_append]
          have c81 : (Int32.ofInt 4).toInt = 4 := by decide
          refine ⟨fun h82 => ?_, fun h82 => ?_⟩
          · have g82 := (neI (x := p2) (y := (Int32.ofInt 4)) h82 : ¬ (p2 : Int32).toInt = ((Int32.ofInt 4) : Int32).toInt)
            refine hB _ _ _ _ _ (fun m83 hm83 => ?_)
            dsimp only [ucgo, ucwp, ucsC, uqC, uoC, ctC, rfd, KX3_workType, KX3_workType_0, KX3_workType_4, KX3_workType_6, KX3_workType_12, KX3_workType_18, KX3_workType_23, KX3_workType_28, KX3_workType_33, KX3_workType_37, KX3_workType_38, lkC, s1C, s2C, dlC, kyC, Nat.beq, Nat.ble, rcd, rno, rsw, Nat.reduceAdd, Nat.reduceBEq, Nat.reduceDiv, List.drop, List.take, List.reverse, List.reverseAux, Int.toNat, Option.toList, List.append, List.cons_append, List.nil_append]
            have c84 : (Int32.ofInt 3).toInt = 3 := by decide
            refine hB _ _ _ _ _ (fun m85 hm85 => ?_)
            dsimp only [ucgo, ucwp, ucsC, uqC, uoC, ctC, rfd, KX3_workType, KX3_workType_0, KX3_workType_4, KX3_workType_6, KX3_workType_12, KX3_workType_18, KX3_workType_23, KX3_workType_28, KX3_workType_33, KX3_workType_37, KX3_workType_38, lkC, s1C, s2C, dlC, kyC, Nat.beq, Nat.ble, rcd, rno, rsw, Nat.reduceAdd, Nat.reduceBEq, Nat.reduceDiv, List.drop, List.take, List.reverse, List.reverseAux, Int.toNat, Option.toList, List.append, List.cons_append, List.nil_append]
            try dsimp only [Qz_workType]
            refine ⟨_, rfl, ?_, rfl⟩
            unfold wrT pmT at *
            repeat' split
            all_goals omega
          · have g82 := (eqI (x := p2) (y := (Int32.ofInt 4)) h82 : (p2 : Int32).toInt = ((Int32.ofInt 4) : Int32).toInt)
            refine hB _ _ _ _ _ (fun m86 hm86 => ?_)
            dsimp only [ucgo, ucwp, ucsC, uqC, uoC, ctC, rfd, KX3_workType, KX3_workType_0, KX3_workType_4, KX3_workType_6, KX3_workType_12, KX3_workType_18, KX3_workType_23, KX3_workType_28, KX3_workType_33, KX3_workType_37, KX3_workType_38, lkC, s1C, s2C, dlC, kyC, Nat.beq, Nat.ble, rcd, rno, rsw, Nat.reduceAdd, Nat.reduceBEq, Nat.reduceDiv, List.drop, List.take, List.reverse, List.reverseAux, Int.toNat, Option.toList, List.append, List.cons_append, List.nil_append]
            have c87 : (Int32.ofInt 4).toInt = 4 := by decide
            refine hB _ _ _ _ _ (fun m88 hm88 => ?_)
            dsimp only [ucgo, ucwp, ucsC, uqC, uoC, ctC, rfd, KX3_workType, KX3_workType_0, KX3_workType_4, KX3_workType_6, KX3_workType_12, KX3_workType_18, KX3_workType_23, KX3_workType_28, KX3_workType_33, KX3_workType_37, KX3_workType_38, lkC, s1C, s2C, dlC, kyC, Nat.beq, Nat.ble, rcd, rno, rsw, Nat.reduceAdd, Nat.reduceBEq, Nat.reduceDiv, List.drop, List.take, List.reverse, List.reverseAux, Int.toNat, Option.toList, List.append, List.cons_append, List.nil_append]
            try dsimp only [Qz_workType]
            refine ⟨_, rfl, ?_, rfl⟩
            unfold wrT pmT at *
            repeat' split
            all_goals omega
      · have g73 := nltI (x := (Int32.ofInt 33)) (y := p0) h73
        refine hB _ _ _ _ _ (fun m89 hm89 => ?_)
        dsimp only [ucgo, ucwp, ucsC, uqC, uoC, ctC, rfd, KX3_workType, KX3_workType_0, KX3_workType_4, KX3_workType_6, KX3_workType_12, KX3_workType_18, KX3_workType_23, KX3_workType_28, KX3_workType_33, KX3_workType_37, KX3_workType_38, lkC, s1C, s2C, dlC, kyC, Nat.beq, Nat.ble, rcd, rno, rsw, Nat.reduceAdd, Nat.reduceBEq, Nat.reduceDiv, List.drop, List.take, List.reverse, List.reverseAux, Int.toNat, Option.toList, List.append, List.cons_append, List.nil_append]
        intro w90 τ90 o90 q90
        obtain ⟨r90, rfl, hr90, rfl⟩ := q90 (N, E, A, B, V, z) ⟨_, rfl⟩
        try dsimp only [Option.toList, List.cons_append, List.nil_append, s1C, s2C, dlC, kyC, Nat.beq, lkC, rcd, rno, rsw]
        try dsimp only [Qz_workType]
        refine ⟨_, rfl, ?_, rfl⟩
        unfold wrT pmT at *
        repeat' split
        all_goals omega
  · have g52 := (eqI (x := p1) (y := 0) h52 : (p1 : Int32).toInt = (0 : Int32).toInt)
    have z0_ : (0 : Int32).toInt = 0 := rfl
    refine hB _ _ _ _ _ (fun m91 hm91 => ?_)
    dsimp only [ucgo, ucwp, ucsC, uqC, uoC, ctC, rfd, KX3_workType, KX3_workType_0, KX3_workType_4, KX3_workType_6, KX3_workType_12, KX3_workType_18, KX3_workType_23, KX3_workType_28, KX3_workType_33, KX3_workType_37, KX3_workType_38, lkC, s1C, s2C, dlC, kyC, Nat.beq, Nat.ble, rcd, rno, rsw, Nat.reduceAdd, Nat.reduceBEq, Nat.reduceDiv, List.drop, List.take, List.reverse, List.reverseAux, Int.toNat, Option.toList, List.append, List.cons_append, List.nil_append]
    have c92 : (Int32.ofInt 0).toInt = 0 := by decide
    try dsimp only [Qz_workType]
    refine ⟨_, rfl, ?_, rfl⟩
    unfold wrT pmT at *
    repeat' split
    all_goals omega
theorem wz_workType : ∀ (L : Nat) (As : List AvC) (σ : CsC) (w : Option AvC) (τ : CsC), EvF L 68 As σ w τ → Uz_workType As σ w τ := by
  intro L
  cases L with
  | zero => exact fun _ _ _ _ h => h.elim
  | succ L => exact fun As σ w τ h y hy => EvF.us (cs := [58]) (pz_workType y) rfl (List.forall_mem_cons.2 ⟨wz_promoted L, fun _ h => absurd h List.not_mem_nil⟩) h hy
abbrev Pz_narrowed : ((Int → Int) × (Nat → Nat) × (Nat → Nat) × (Nat → Nat) × (Nat → Nat) × ZS) → CpC := fun y As σ => match y with
  | (N, E, A, B, V, z) => ∃ (p0 : Int32) (p1 : Int64), As = [.inl p0, .inr (.inl p1)]
abbrev Qz_narrowed : ((Int → Int) × (Nat → Nat) × (Nat → Nat) × (Nat → Nat) × (Nat → Nat) × ZS) → CqC := fun y As σ w τ => match y, As with
  | (N, E, A, B, V, z), [.inl p0, .inr (.inl p1)] => ∃ r, w = some (.inr (.inl r)) ∧ r = nrT p0.toInt p1 ∧ σ = τ
  | _, _ => True
abbrev Uz_narrowed : CqC := fun As σ w τ => ∀ y, Pz_narrowed y As σ → Qz_narrowed y As σ w τ
set_option maxHeartbeats 4000000 in
theorem pz_narrowed (y : (Int → Int) × (Nat → Nat) × (Nat → Nat) × (Nat → Nat) × (Nat → Nat) × ZS) : PbC KX11_narrowed [] [] (fun As σ => Pz_narrowed y As σ ∧ cnC σ ≤ 1000000 ∧ ∃ w τ, uqC quL 228 As σ w τ) (Qz_narrowed y) := by
  obtain ⟨N, E, A, B, V, z⟩ := y
  rintro As σ ⟨⟨p0, p1, rfl⟩, hcn, _, _, hQ⟩ K hB hW n_
  change K n_ 0 [(0, .inl p0), (1, .inr (.inl p1))] [] σ
  refine hB _ _ _ _ _ (fun m51 hm51 => ?_)
  dsimp only [ucgo, ucwp, ucsC, uqC, uoC, ctC, rfd, KX11_narrowed, KX11_narrowed_0, KX11_narrowed_28, KX11_narrowed_33, KX11_narrowed_38, KX11_narrowed_42, lkC, s1C, s2C, dlC, kyC, Nat.beq, Nat.ble, rcd, rno, rsw, Nat.reduceAdd, Nat.reduceBEq, Nat.reduceDiv, List.drop, List.take, List.reverse, List.reverseAux, Int.toNat, Option.toList, List.append, List.cons_append, List.nil_append]
  refine ⟨fun h52 => ?_, fun h52 => ?_⟩
  · have g52 : (p0 : Int32).toInt = 1 := h52
    refine hB _ _ _ _ _ (fun m53 hm53 => ?_)
    dsimp only [ucgo, ucwp, ucsC, uqC, uoC, ctC, rfd, KX11_narrowed, KX11_narrowed_0, KX11_narrowed_28, KX11_narrowed_33, KX11_narrowed_38, KX11_narrowed_42, lkC, s1C, s2C, dlC, kyC, Nat.beq, Nat.ble, rcd, rno, rsw, Nat.reduceAdd, Nat.reduceBEq, Nat.reduceDiv, List.drop, List.take, List.reverse, List.reverseAux, Int.toNat, Option.toList, List.append, List.cons_append, List.nil_append]
    try dsimp only [Qz_narrowed]
    exact ⟨_, rfl, by unfold nrT; rw [if_pos (by omega)], rfl⟩
  have g52 : ¬ (p0 : Int32).toInt = 1 := h52
  refine ⟨fun h54 => ?_, fun h54 => ?_⟩
  · have g54 : (p0 : Int32).toInt = 2 := h54
    refine hB _ _ _ _ _ (fun m55 hm55 => ?_)
    dsimp only [ucgo, ucwp, ucsC, uqC, uoC, ctC, rfd, KX11_narrowed, KX11_narrowed_0, KX11_narrowed_28, KX11_narrowed_33, KX11_narrowed_38, KX11_narrowed_42, lkC, s1C, s2C, dlC, kyC, Nat.beq, Nat.ble, rcd, rno, rsw, Nat.reduceAdd, Nat.reduceBEq, Nat.reduceDiv, List.drop, List.take, List.reverse, List.reverseAux, Int.toNat, Option.toList, List.append, List.cons_append, List.nil_append]
    try dsimp only [Qz_narrowed]
    exact ⟨_, rfl, by unfold nrT; rw [if_neg (by omega), if_pos (by omega)], rfl⟩
  have g54 : ¬ (p0 : Int32).toInt = 2 := h54
  refine ⟨fun h56 => ?_, fun h56 => ?_⟩
  · have g56 : (p0 : Int32).toInt = 3 := h56
    refine hB _ _ _ _ _ (fun m57 hm57 => ?_)
    dsimp only [ucgo, ucwp, ucsC, uqC, uoC, ctC, rfd, KX11_narrowed, KX11_narrowed_0, KX11_narrowed_28, KX11_narrowed_33, KX11_narrowed_38, KX11_narrowed_42, lkC, s1C, s2C, dlC, kyC, Nat.beq, Nat.ble, rcd, rno, rsw, Nat.reduceAdd, Nat.reduceBEq, Nat.reduceDiv, List.drop, List.take, List.reverse, List.reverseAux, Int.toNat, Option.toList, List.append, List.cons_append, List.nil_append]
    try dsimp only [Qz_narrowed]
    exact ⟨_, rfl, by unfold nrT; rw [if_neg (by omega), if_neg (by omega), if_pos (by omega)], rfl⟩
  have g56 : ¬ (p0 : Int32).toInt = 3 := h56
  refine hB _ _ _ _ _ (fun m58 hm58 => ?_)
  dsimp only [ucgo, ucwp, ucsC, uqC, uoC, ctC, rfd, KX11_narrowed, KX11_narrowed_0, KX11_narrowed_28, KX11_narrowed_33, KX11_narrowed_38, KX11_narrowed_42, lkC, s1C, s2C, dlC, kyC, Nat.beq, Nat.ble, rcd, rno, rsw, Nat.reduceAdd, Nat.reduceBEq, Nat.reduceDiv, List.drop, List.take, List.reverse, List.reverseAux, Int.toNat, Option.toList, List.append, List.cons_append, List.nil_append]
  try dsimp only [Qz_narrowed]
  exact ⟨_, rfl, by unfold nrT; rw [if_neg (by omega), if_neg (by omega), if_neg (by omega)], rfl⟩
theorem wz_narrowed : ∀ (L : Nat) (As : List AvC) (σ : CsC) (w : Option AvC) (τ : CsC), EvF L 228 As σ w τ → Uz_narrowed As σ w τ := by
  intro L
  cases L with
  | zero => exact fun _ _ _ _ h => h.elim
  | succ L => exact fun As σ w τ h y hy => EvF.us (cs := []) (pz_narrowed y) rfl (fun _ h => absurd h List.not_mem_nil) h hy
