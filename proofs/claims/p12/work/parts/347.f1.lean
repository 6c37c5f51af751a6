/-! the class's flow: REACHED -/
theorem ior_b {x y : Int32} {a b : Bool} (hx : x.toInt = bZI a) (hy : y.toInt = bZI b) : (x ||| y).toInt = bZI (a || b) := by
  have ex : x = Int32.ofInt (bZI a) := by rw [← hx, Int32.ofInt_toInt]
  have ey : y = Int32.ofInt (bZI b) := by rw [← hy, Int32.ofInt_toInt]
  rw [ex, ey]
  cases a <;> cases b <;> decide
abbrev Pz_hasFinallyAhead : ((Int → Int) × (Nat → Nat) × (Nat → Nat) × (Nat → Nat) × (Nat → Nat) × ZS × TbT × MfT × Nat × Nat) → CpC := fun y As σ => match y with
  | (N, E, A, B, V, z, T, ms, nm, j) => ∃ (p0 : Nat), As = [.inr (.inr (some p0))] ∧ (SsC E A B σ z T ms nm) ∧ (WfS z T) ∧ (BiC B z) ∧ (j < snM z) ∧ (p0 = B j)
abbrev Qz_hasFinallyAhead : ((Int → Int) × (Nat → Nat) × (Nat → Nat) × (Nat → Nat) × (Nat → Nat) × ZS × TbT × MfT × Nat × Nat) → CqC := fun y As σ w τ => match y, As with
  | (N, E, A, B, V, z, T, ms, nm, j), [.inr (.inr (some p0))] => ∃ r, w = some (.inl r) ∧ r.toInt = bZI (hfA z j) ∧ σ = τ
  | _, _ => True
abbrev Uz_hasFinallyAhead : CqC := fun As σ w τ => ∀ y, Pz_hasFinallyAhead y As σ → Qz_hasFinallyAhead y As σ w τ
set_option maxHeartbeats 4000000 in
theorem pz_hasFinallyAhead (y : (Int → Int) × (Nat → Nat) × (Nat → Nat) × (Nat → Nat) × (Nat → Nat) × ZS × TbT × MfT × Nat × Nat) : PbC KX8_hasFinallyAhead [] [] (fun As σ => Pz_hasFinallyAhead y As σ ∧ cnC σ ≤ 1000000 ∧ ∃ w τ, uqC quL 181 As σ w τ) (Qz_hasFinallyAhead y) := by
  obtain ⟨N, E, A, B, V, z, T, ms, nm, j⟩ := y
  rintro As σ ⟨⟨p0, rfl, hSs, hwf, hBi, hj, hp⟩, hcn, _, _, hQ⟩ K hB hW n_
  have op : SlC A B σ z j p0 ∧ p0 < cnC σ := by rw [hp]; exact hSs.1 j hj
  change K n_ 0 [(0, .inr (.inr (some p0)))] [] σ
  refine hB _ _ _ _ _ (fun m51 hm51 => ?_)
  dsimp only [ucgo, ucwp, ucsC, uqC, uoC, ctC, rfd, KX8_hasFinallyAhead, KX8_hasFinallyAhead_0, KX8_hasFinallyAhead_9, KX8_hasFinallyAhead_16, KX8_hasFinallyAhead_26, KX8_hasFinallyAhead_37, KX8_hasFinallyAhead_41, KX8_hasFinallyAhead_42, lkC, s1C, s2C, dlC, kyC, Nat.beq, Nat.ble, rcd, rno, rsw, Nat.reduceAdd, Nat.reduceBEq, Nat.reduceDiv, List.drop, List.take, List.reverse, List.reverseAux, Int.toNat, Option.toList, List.append, List.cons_append, List.nil_append, zg270, zg273, zg278]
  intro a52 e52 ob52
  cases e52
  have f53 : (fIC σ p0 270).toInt = kjS z j := op.1.1.1
  have c54 : (Int32.ofInt 92).toInt = 92 := by decide
  refine ⟨fun h55 => ?_, fun h55 => ?_⟩
  · have g55 := (neI (x := (fIC σ p0 270)) (y := (Int32.ofInt 92)) h55 : ¬ ((fIC σ p0 270) : Int32).toInt = ((Int32.ofInt 92) : Int32).toInt)
    refine hB _ _ _ _ _ (fun m56 hm56 => ?_)
    dsimp only [ucgo, ucwp, ucsC, uqC, uoC, ctC, rfd, KX8_hasFinallyAhead, KX8_hasFinallyAhead_0, KX8_hasFinallyAhead_9, KX8_hasFinallyAhead_16, KX8_hasFinallyAhead_26, KX8_hasFinallyAhead_37, KX8_hasFinallyAhead_41, KX8_hasFinallyAhead_42, lkC, s1C, s2C, dlC, kyC, Nat.beq, Nat.ble, rcd, rno, rsw, Nat.reduceAdd, Nat.reduceBEq, Nat.reduceDiv, List.drop, List.take, List.reverse, List.reverseAux, Int.toNat, Option.toList, List.append, List.cons_append, List.nil_append, zg270, zg273, zg278]
    have c57 : (Int32.ofInt 0).toInt = 0 := by decide
    refine hB _ _ _ _ _ (fun m58 hm58 => ?_)
    dsimp only [ucgo, ucwp, ucsC, uqC, uoC, ctC, rfd, KX8_hasFinallyAhead, KX8_hasFinallyAhead_0, KX8_hasFinallyAhead_9, KX8_hasFinallyAhead_16, KX8_hasFinallyAhead_26, KX8_hasFinallyAhead_37, KX8_hasFinallyAhead_41, KX8_hasFinallyAhead_42, lkC, s1C, s2C, dlC, kyC, Nat.beq, Nat.ble, rcd, rno, rsw, Nat.reduceAdd, Nat.reduceBEq, Nat.reduceDiv, List.drop, List.take, List.reverse, List.reverseAux, Int.toNat, Option.toList, List.append, List.cons_append, List.nil_append, zg270, zg273, zg278]
    try dsimp only [Qz_hasFinallyAhead]
    refine ⟨_, rfl, ?_, rfl⟩
    unfold hfA
    rw [decide_eq_false (show ¬ kjS z j = 92 by omega)]
    simp only [Bool.true_or, Bool.or_true, Bool.false_or, Bool.or_false, Bool.and_true, Bool.true_and, Bool.and_false, Bool.false_and, Bool.not_true, Bool.not_false]
    show _ = (0 : Int)
    omega
  · have g55 := (eqI (x := (fIC σ p0 270)) (y := (Int32.ofInt 92)) h55 : ((fIC σ p0 270) : Int32).toInt = ((Int32.ofInt 92) : Int32).toInt)
    refine hB _ _ _ _ _ (fun m59 hm59 => ?_)
    dsimp only [ucgo, ucwp, ucsC, uqC, uoC, ctC, rfd, KX8_hasFinallyAhead, KX8_hasFinallyAhead_0, KX8_hasFinallyAhead_9, KX8_hasFinallyAhead_16, KX8_hasFinallyAhead_26, KX8_hasFinallyAhead_37, KX8_hasFinallyAhead_41, KX8_hasFinallyAhead_42, lkC, s1C, s2C, dlC, kyC, Nat.beq, Nat.ble, rcd, rno, rsw, Nat.reduceAdd, Nat.reduceBEq, Nat.reduceDiv, List.drop, List.take, List.reverse, List.reverseAux, Int.toNat, Option.toList, List.append, List.cons_append, List.nil_append, zg270, zg273, zg278]
    intro a60 e60 ob60
    cases e60
    have f61 : (fRC σ p0 273) = opA B (paS z j) := op.1.1.2.2.2
    refine ⟨fun h62 => ?_, fun b62 h62 => ?_⟩
    · have hx62 := opA_nn (f61.symm.trans h62)
      refine hB _ _ _ _ _ (fun m63 hm63 => ?_)
      dsimp only [ucgo, ucwp, ucsC, uqC, uoC, ctC, rfd, KX8_hasFinallyAhead, KX8_hasFinallyAhead_0, KX8_hasFinallyAhead_9, KX8_hasFinallyAhead_16, KX8_hasFinallyAhead_26, KX8_hasFinallyAhead_37, KX8_hasFinallyAhead_41, KX8_hasFinallyAhead_42, lkC, s1C, s2C, dlC, kyC, Nat.beq, Nat.ble, rcd, rno, rsw, Nat.reduceAdd, Nat.reduceBEq, Nat.reduceDiv, List.drop, List.take, List.reverse, List.reverseAux, Int.toNat, Option.toList, List.append, List.cons_append, List.nil_append, zg270, zg273, zg278]
      have c64 : (Int32.ofInt 0).toInt = 0 := by decide
      refine hB _ _ _ _ _ (fun m65 hm65 => ?_)
      dsimp only [ucgo, ucwp, ucsC, uqC, uoC, ctC, rfd, KX8_hasFinallyAhead, KX8_hasFinallyAhead_0, KX8_hasFinallyAhead_9, KX8_hasFinallyAhead_16, KX8_hasFinallyAhead_26, KX8_hasFinallyAhead_37, KX8_hasFinallyAhead_41, KX8_hasFinallyAhead_42, lkC, s1C, s2C, dlC, kyC, Nat.beq, Nat.ble, rcd, rno, rsw, Nat.reduceAdd, Nat.reduceBEq, Nat.reduceDiv, List.drop, List.take, List.reverse, List.reverseAux, Int.toNat, Option.toList, List.append, List.cons_append, List.nil_append, zg270, zg273, zg278]
      try dsimp only [Qz_hasFinallyAhead]
      refine ⟨_, rfl, ?_, rfl⟩
      unfold hfA
      rw [decide_eq_true (show kjS z j = 92 by omega), decide_eq_false (show ¬ 0 ≤ paS z j by omega)]
      simp only [Bool.true_or, Bool.or_true, Bool.false_or, Bool.or_false, Bool.and_true, Bool.true_and, Bool.and_false, Bool.false_and, Bool.not_true, Bool.not_false]
      show _ = (0 : Int)
      omega
    · obtain ⟨j62, hj62, hb62⟩ := opA_j (f61.symm.trans h62)
      have hwx62 := (hwf j hj).1
      have hl62 : j62 < snM z := by omega
      have o66 := hSs.1 j62 hl62
      refine hB _ _ _ _ _ (fun m67 hm67 => ?_)
      dsimp only [ucgo, ucwp, ucsC, uqC, uoC, ctC, rfd, KX8_hasFinallyAhead, KX8_hasFinallyAhead_0, KX8_hasFinallyAhead_9, KX8_hasFinallyAhead_16, KX8_hasFinallyAhead_26, KX8_hasFinallyAhead_37, KX8_hasFinallyAhead_41, KX8_hasFinallyAhead_42, lkC, s1C, s2C, dlC, kyC, Nat.beq, Nat.ble, rcd, rno, rsw, Nat.reduceAdd, Nat.reduceBEq, Nat.reduceDiv, List.drop, List.take, List.reverse, List.reverseAux, Int.toNat, Option.toList, List.append, List.cons_append, List.nil_append, zg270, zg273, zg278]
      intro a68 e68 ob68
      cases e68
      have f69 : (fRC σ p0 273) = some (B j62) := by rw [show (fRC σ p0 273) = opA B (paS z j) from op.1.1.2.2.2, hj62, opA_k]
      intro a70 e70 ob70
      obtain rfl : B j62 = a70 := Option.some.inj (f69.symm.trans e70)
      have f71 : (fRC σ (B j62) 278) = opA B (gjS z j62) := o66.1.2.2.2.2.1
      refine ⟨fun h72 => ?_, fun b72 h72 => ?_⟩
      · have hx72 := opA_nn (f71.symm.trans h72)
        refine hB _ _ _ _ _ (fun m73 hm73 => ?_)
        dsimp only [ucgo, ucwp, ucsC, uqC, uoC, ctC, rfd, KX8_hasFinallyAhead, KX8_hasFinallyAhead_0, KX8_hasFinallyAhead_9, KX8_hasFinallyAhead_16, KX8_hasFinallyAhead_26, KX8_hasFinallyAhead_37, KX8_hasFinallyAhead_41, KX8_hasFinallyAhead_42, lkC, s1C, s2C, dlC, kyC, Nat.beq, Nat.ble, rcd, rno, rsw, Nat.reduceAdd, Nat.reduceBEq, Nat.reduceDiv, List.drop, List.take, List.reverse, List.reverseAux, Int.toNat, Option.toList, List.append, List.cons_append, List.nil_append, zg270, zg273, zg278]
        have c74 : (Int32.ofInt 0).toInt = 0 := by decide
        refine hB _ _ _ _ _ (fun m75 hm75 => ?_)
        dsimp only [ucgo, ucwp, ucsC, uqC, uoC, ctC, rfd, KX8_hasFinallyAhead, KX8_hasFinallyAhead_0, KX8_hasFinallyAhead_9, KX8_hasFinallyAhead_16, KX8_hasFinallyAhead_26, KX8_hasFinallyAhead_37, KX8_hasFinallyAhead_41, KX8_hasFinallyAhead_42, lkC, s1C, s2C, dlC, kyC, Nat.beq, Nat.ble, rcd, rno, rsw, Nat.reduceAdd, Nat.reduceBEq, Nat.reduceDiv, List.drop, List.take, List.reverse, List.reverseAux, Int.toNat, Option.toList, List.append, List.cons_append, List.nil_append, zg270, zg273, zg278]
        try dsimp only [Qz_hasFinallyAhead]
        refine ⟨_, rfl, ?_, rfl⟩
        unfold hfA
        rw [hj62, Int.toNat_natCast]
        rw [decide_eq_true (show kjS z j = 92 by omega), decide_eq_true (show 0 ≤ (j62 : Int) by omega), decide_eq_false (show ¬ 0 ≤ gjS z j62 by omega)]
        simp only [Bool.true_or, Bool.or_true, Bool.false_or, Bool.or_false, Bool.and_true, Bool.true_and, Bool.and_false, Bool.false_and, Bool.not_true, Bool.not_false]
        show _ = (0 : Int)
        omega
      · obtain ⟨j72, hj72, hb72⟩ := opA_j (f71.symm.trans h72)
        have hwx72 := (hwf j62 hl62).1
        have hl72 : j72 < snM z := by omega
        have o76 := hSs.1 j72 hl72
        refine hB _ _ _ _ _ (fun m77 hm77 => ?_)
        dsimp only [ucgo, ucwp, ucsC, uqC, uoC, ctC, rfd, KX8_hasFinallyAhead, KX8_hasFinallyAhead_0, KX8_hasFinallyAhead_9, KX8_hasFinallyAhead_16, KX8_hasFinallyAhead_26, KX8_hasFinallyAhead_37, KX8_hasFinallyAhead_41, KX8_hasFinallyAhead_42, lkC, s1C, s2C, dlC, kyC, Nat.beq, Nat.ble, rcd, rno, rsw, Nat.reduceAdd, Nat.reduceBEq, Nat.reduceDiv, List.drop, List.take, List.reverse, List.reverseAux, Int.toNat, Option.toList, List.append, List.cons_append, List.nil_append, zg270, zg273, zg278]
        intro a78 e78 ob78
        cases e78
        have f79 : (fRC σ p0 273) = some (B j62) := by rw [show (fRC σ p0 273) = opA B (paS z j) from op.1.1.2.2.2, hj62, opA_k]
        intro a80 e80 ob80
        obtain rfl : B j62 = a80 := Option.some.inj (f79.symm.trans e80)
        have f81 : (fRC σ (B j62) 278) = some (B j72) := by rw [show (fRC σ (B j62) 278) = opA B (gjS z j62) from o66.1.2.2.2.2.1, hj72, opA_k]
        refine ⟨fun h82 => ?_, fun h82 => ?_⟩
        · have hjj : j72 = j := hBi _ _ (by omega) hj ((Option.some.inj (f81.symm.trans h82)).trans hp)
          refine hB _ _ _ _ _ (fun m83 hm83 => ?_)
          dsimp only [ucgo, ucwp, ucsC, uqC, uoC, ctC, rfd, KX8_hasFinallyAhead, KX8_hasFinallyAhead_0, KX8_hasFinallyAhead_9, KX8_hasFinallyAhead_16, KX8_hasFinallyAhead_26, KX8_hasFinallyAhead_37, KX8_hasFinallyAhead_41, KX8_hasFinallyAhead_42, lkC, s1C, s2C, dlC, kyC, Nat.beq, Nat.ble, rcd, rno, rsw, Nat.reduceAdd, Nat.reduceBEq, Nat.reduceDiv, List.drop, List.take, List.reverse, List.reverseAux, Int.toNat, Option.toList, List.append, List.cons_append, List.nil_append, zg270, zg273, zg278]
          have c84 : (Int32.ofInt 0).toInt = 0 := by decide
          refine hB _ _ _ _ _ (fun m85 hm85 => ?_)
          dsimp only [ucgo, ucwp, ucsC, uqC, uoC, ctC, rfd, KX8_hasFinallyAhead, KX8_hasFinallyAhead_0, KX8_hasFinallyAhead_9, KX8_hasFinallyAhead_16, KX8_hasFinallyAhead_26, KX8_hasFinallyAhead_37, KX8_hasFinallyAhead_41, KX8_hasFinallyAhead_42, lkC, s1C, s2C, dlC, kyC, Nat.beq, Nat.ble, rcd, rno, rsw, Nat.reduceAdd, Nat.reduceBEq, Nat.reduceDiv, List.drop, List.take, List.reverse, List.reverseAux, Int.toNat, Option.toList, List.append, List.cons_append, List.nil_append, zg270, zg273, zg278]
          try dsimp only [Qz_hasFinallyAhead]
          refine ⟨_, rfl, ?_, rfl⟩
          unfold hfA
          rw [hj62, Int.toNat_natCast]
          rw [hj72]
          rw [decide_eq_true (show kjS z j = 92 by omega), decide_eq_true (show 0 ≤ (j62 : Int) by omega), decide_eq_true (show 0 ≤ (j72 : Int) by omega), decide_eq_true (show (j72 : Int) = (j : Int) by omega)]
          simp only [Bool.true_or, Bool.or_true, Bool.false_or, Bool.or_false, Bool.and_true, Bool.true_and, Bool.and_false, Bool.false_and, Bool.not_true, Bool.not_false]
          show _ = (0 : Int)
          omega
        · have hjj : ¬ j72 = j := fun q9 => h82 (by rw [f81, hp, q9])
          refine hB _ _ _ _ _ (fun m86 hm86 => ?_)
          dsimp only [ucgo, ucwp, ucsC, uqC, uoC, ctC, rfd, KX8_hasFinallyAhead, KX8_hasFinallyAhead_0, KX8_hasFinallyAhead_9, KX8_hasFinallyAhead_16, KX8_hasFinallyAhead_26, KX8_hasFinallyAhead_37, KX8_hasFinallyAhead_41, KX8_hasFinallyAhead_42, lkC, s1C, s2C, dlC, kyC, Nat.beq, Nat.ble, rcd, rno, rsw, Nat.reduceAdd, Nat.reduceBEq, Nat.reduceDiv, List.drop, List.take, List.reverse, List.reverseAux, Int.toNat, Option.toList, List.append, List.cons_append, List.nil_append, zg270, zg273, zg278]
          have c87 : (Int32.ofInt 1).toInt = 1 := by decide
          refine hB _ _ _ _ _ (fun m88 hm88 => ?_)
          dsimp only [ucgo, ucwp, ucsC, uqC, uoC, ctC, rfd, KX8_hasFinallyAhead, KX8_hasFinallyAhead_0, KX8_hasFinallyAhead_9, KX8_hasFinallyAhead_16, KX8_hasFinallyAhead_26, KX8_hasFinallyAhead_37, KX8_hasFinallyAhead_41, KX8_hasFinallyAhead_42, lkC, s1C, s2C, dlC, kyC, Nat.beq, Nat.ble, rcd, rno, rsw, Nat.reduceAdd, Nat.reduceBEq, Nat.reduceDiv, List.drop, List.take, List.reverse, List.reverseAux, Int.toNat, Option.toList, List.append, List.cons_append, List.nil_append, zg270, zg273, zg278]
          try dsimp only [Qz_hasFinallyAhead]
          refine ⟨_, rfl, ?_, rfl⟩
          unfold hfA
          rw [hj62, Int.toNat_natCast]
          rw [hj72]
          rw [decide_eq_true (show kjS z j = 92 by omega), decide_eq_true (show 0 ≤ (j62 : Int) by omega), decide_eq_true (show 0 ≤ (j72 : Int) by omega), decide_eq_false (show ¬ (j72 : Int) = (j : Int) by omega)]
          simp only [Bool.true_or, Bool.or_true, Bool.false_or, Bool.or_false, Bool.and_true, Bool.true_and, Bool.and_false, Bool.false_and, Bool.not_true, Bool.not_false]
          show _ = (1 : Int)
          omega
theorem wz_hasFinallyAhead : ∀ (L : Nat) (As : List AvC) (σ : CsC) (w : Option AvC) (τ : CsC), EvF L 181 As σ w τ → Uz_hasFinallyAhead As σ w τ := by
  intro L
  cases L with
  | zero => exact fun _ _ _ _ h => h.elim
  | succ L => exact fun As σ w τ h y hy => EvF.us (cs := []) (pz_hasFinallyAhead y) rfl (fun _ h => absurd h List.not_mem_nil) h hy
abbrev Pz_isAlways : ((Int → Int) × (Nat → Nat) × (Nat → Nat) × (Nat → Nat) × (Nat → Nat) × ZS × TbT × MfT × Nat × Nat) → CpC := fun y As σ => match y with
  | (N, E, A, B, V, z, T, ms, nm, j) => ∃ (p0 : Nat) (p1 : Int32), As = [.inr (.inr (some p0)), .inl p1] ∧ (SsC E A B σ z T ms nm) ∧ (WfS z T) ∧ (j < snM z) ∧ (p0 = B j)
abbrev Qz_isAlways : ((Int → Int) × (Nat → Nat) × (Nat → Nat) × (Nat → Nat) × (Nat → Nat) × ZS × TbT × MfT × Nat × Nat) → CqC := fun y As σ w τ => match y, As with
  | (N, E, A, B, V, z, T, ms, nm, j), [.inr (.inr (some p0)), .inl p1] => ∃ r, w = some (.inl r) ∧ r.toInt = bZI (alwT z T j p1.toInt) ∧ σ = τ
  | _, _ => True
abbrev Uz_isAlways : CqC := fun As σ w τ => ∀ y, Pz_isAlways y As σ → Qz_isAlways y As σ w τ
set_option maxHeartbeats 4000000 in
theorem pz_isAlways (y : (Int → Int) × (Nat → Nat) × (Nat → Nat) × (Nat → Nat) × (Nat → Nat) × ZS × TbT × MfT × Nat × Nat) : PbC KX8_isAlways [] [] (fun As σ => Pz_isAlways y As σ ∧ cnC σ ≤ 1000000 ∧ ∃ w τ, uqC quL 183 As σ w τ) (Qz_isAlways y) := by
  obtain ⟨N, E, A, B, V, z, T, ms, nm, j⟩ := y
  rintro As σ ⟨⟨p0, p1, rfl, hSs, hwf, hj, hp⟩, hcn, _, _, hQ⟩ K hB hW n_
  have op : SlC A B σ z j p0 ∧ p0 < cnC σ := by rw [hp]; exact hSs.1 j hj
  change K n_ 0 [(0, .inr (.inr (some p0))), (1, .inl p1)] [] σ
  refine hB _ _ _ _ _ (fun m51 hm51 => ?_)
  dsimp only [ucgo, ucwp, ucsC, uqC, uoC, ctC, rfd, KX8_isAlways, KX8_isAlways_0, KX8_isAlways_7, KX8_isAlways_12, KX8_isAlways_16, KX8_isAlways_17, KX8_isAlways_18, KX8_isAlways_28, KX8_isAlways_41, KX8_isAlways_45, KX8_isAlways_46, lkC, s1C, s2C, dlC, kyC, Nat.beq, Nat.ble, rcd, rno, rsw, Nat.reduceAdd, Nat.reduceBEq, Nat.reduceDiv, List.drop, List.take, List.reverse, List.reverseAux, Int.toNat, Option.toList, List.append, List.cons_append, List.nil_append, zg70, zg71, zg279]
  intro a52 e52 ob52
  cases e52
  have f53 : (fRC σ p0 279) = opA A (xjS z j) := op.1.2.2.2.2.2.1
  refine ⟨fun b54 h54 => ?_, fun h54 => ?_⟩
  · obtain ⟨kx54, hk54, hb54⟩ := opA_j (f53.symm.trans h54)
    have hw_kx54 := (hwf j hj).2.1 (by omega)
    rw [hk54, Int.toNat_natCast] at hw_kx54
    have hl54 : kx54 < xnM z := by omega
    have o55 := hSs.2.1 kx54 hl54
    refine hB _ _ _ _ _ (fun m56 hm56 => ?_)
    dsimp only [ucgo, ucwp, ucsC, uqC, uoC, ctC, rfd, KX8_isAlways, KX8_isAlways_0, KX8_isAlways_7, KX8_isAlways_12, KX8_isAlways_16, KX8_isAlways_17, KX8_isAlways_18, KX8_isAlways_28, KX8_isAlways_41, KX8_isAlways_45, KX8_isAlways_46, lkC, s1C, s2C, dlC, kyC, Nat.beq, Nat.ble, rcd, rno, rsw, Nat.reduceAdd, Nat.reduceBEq, Nat.reduceDiv, List.drop, List.take, List.reverse, List.reverseAux, Int.toNat, Option.toList, List.append, List.cons_append, List.nil_append, zg70, zg71, zg279]
    intro a57 e57 ob57
    cases e57
    have f58 : (fRC σ p0 279) = some (A kx54) := by rw [show (fRC σ p0 279) = opA A (xjS z j) from op.1.2.2.2.2.2.1, hk54, opA_k]
    intro a59 e59 ob59
    obtain rfl : A kx54 = a59 := Option.some.inj (f58.symm.trans e59)
    have f60 : (fIC σ (A kx54) 70).toInt = (T.1 kx54).2.1 := o55.1.1.2.1
    refine ⟨fun h61 => ?_, fun h61 => ?_⟩
    · have g61 := (eqI (x := (fIC σ (A kx54) 70)) (y := 0) h61 : ((fIC σ (A kx54) 70) : Int32).toInt = (0 : Int32).toInt)
      have z0_ : (0 : Int32).toInt = 0 := rfl
      refine hB _ _ _ _ _ (fun m62 hm62 => ?_)
      dsimp only [ucgo, ucwp, ucsC, uqC, uoC, ctC, rfd, KX8_isAlways, KX8_isAlways_0, KX8_isAlways_7, KX8_isAlways_12, KX8_isAlways_16, KX8_isAlways_17, KX8_isAlways_18, KX8_isAlways_28, KX8_isAlways_41, KX8_isAlways_45, KX8_isAlways_46, lkC, s1C, s2C, dlC, kyC, Nat.beq, Nat.ble, rcd, rno, rsw, Nat.reduceAdd, Nat.reduceBEq, Nat.reduceDiv, List.drop, List.take, List.reverse, List.reverseAux, Int.toNat, Option.toList, List.append, List.cons_append, List.nil_append, zg70, zg71, zg279]
      have c63 : (Int32.ofInt 0).toInt = 0 := by decide
      refine hB _ _ _ _ _ (fun m64 hm64 => ?_)
      dsimp only [ucgo, ucwp, ucsC, uqC, uoC, ctC, rfd, KX8_isAlways, KX8_isAlways_0, KX8_isAlways_7, KX8_isAlways_12, KX8_isAlways_16, KX8_isAlways_17, KX8_isAlways_18, KX8_isAlways_28, KX8_isAlways_41, KX8_isAlways_45, KX8_isAlways_46, lkC, s1C, s2C, dlC, kyC, Nat.beq, Nat.ble, rcd, rno, rsw, Nat.reduceAdd, Nat.reduceBEq, Nat.reduceDiv, List.drop, List.take, List.reverse, List.reverseAux, Int.toNat, Option.toList, List.append, List.cons_append, List.nil_append, zg70, zg71, zg279]
      try dsimp only [Qz_isAlways]
      refine ⟨_, rfl, ?_, rfl⟩
      unfold alwT
      rw [if_neg (by omega), hk54, Int.toNat_natCast, Int32.ofInt_toInt]
      rw [decide_eq_false (show ¬ ¬ (T.1 kx54).2.1 = 0 by omega)]
      show _ = (0 : Int)
      omega
    · have g61 := (neI (x := (fIC σ (A kx54) 70)) (y := 0) h61 : ¬ ((fIC σ (A kx54) 70) : Int32).toInt = (0 : Int32).toInt)
      have z0_ : (0 : Int32).toInt = 0 := rfl
      refine hB _ _ _ _ _ (fun m65 hm65 => ?_)
      dsimp only [ucgo, ucwp, ucsC, uqC, uoC, ctC, rfd, KX8_isAlways, KX8_isAlways_0, KX8_isAlways_7, KX8_isAlways_12, KX8_isAlways_16, KX8_isAlways_17, KX8_isAlways_18, KX8_isAlways_28, KX8_isAlways_41, KX8_isAlways_45, KX8_isAlways_46, lkC, s1C, s2C, dlC, kyC, Nat.beq, Nat.ble, rcd, rno, rsw, Nat.reduceAdd, Nat.reduceBEq, Nat.reduceDiv, List.drop, List.take, List.reverse, List.reverseAux, Int.toNat, Option.toList, List.append, List.cons_append, List.nil_append, zg70, zg71, zg279]
      intro a66 e66 ob66
      cases e66
      have f67 : (fRC σ p0 279) = some (A kx54) := by rw [show (fRC σ p0 279) = opA A (xjS z j) from op.1.2.2.2.2.2.1, hk54, opA_k]
      intro a68 e68 ob68
      obtain rfl : A kx54 = a68 := Option.some.inj (f67.symm.trans e68)
      have f69 : (fLC σ (A kx54) 71) = (T.1 kx54).2.2.1 := o55.1.1.2.2
      have lc70 : (lg_cmp (fLC σ (A kx54) 71) p1.toInt64).toInt = 0 → (fLC σ (A kx54) 71) = p1.toInt64 := lcmpC
      have ld70 : (fLC σ (A kx54) 71) = p1.toInt64 → (lg_cmp (fLC σ (A kx54) 71) p1.toInt64).toInt = 0 := fun e => by rw [e]; exact lcmp0
      refine ⟨fun h71 => ?_, fun h71 => ?_⟩
      · have g71 := (neI (x := (lg_cmp (fLC σ (A kx54) 71) p1.toInt64)) (y := 0) h71 : ¬ ((lg_cmp (fLC σ (A kx54) 71) p1.toInt64) : Int32).toInt = (0 : Int32).toInt)
        have z0_ : (0 : Int32).toInt = 0 := rfl
        refine hB _ _ _ _ _ (fun m72 hm72 => ?_)
        dsimp only [ucgo, ucwp, ucsC, uqC, uoC, ctC, rfd, KX8_isAlways, KX8_isAlways_0, KX8_isAlways_7, KX8_isAlways_12, KX8_isAlways_16, KX8_isAlways_17, KX8_isAlways_18, KX8_isAlways_28, KX8_isAlways_41, KX8_isAlways_45, KX8_isAlways_46, lkC, s1C, s2C, dlC, kyC, Nat.beq, Nat.ble, rcd, rno, rsw, Nat.reduceAdd, Nat.reduceBEq, Nat.reduceDiv, List.drop, List.take, List.reverse, List.reverseAux, Int.toNat, Option.toList, List.append, List.cons_append, List.nil_append, zg70, zg71, zg279]
        have c73 : (Int32.ofInt 0).toInt = 0 := by decide
        refine hB _ _ _ _ _ (fun m74 hm74 => ?_)
        dsimp only [ucgo, ucwp, ucsC, uqC, uoC, ctC, rfd, KX8_isAlways, KX8_isAlways_0, KX8_isAlways_7, KX8_isAlways_12, KX8_isAlways_16, KX8_isAlways_17, KX8_isAlways_18, KX8_isAlways_28, KX8_isAlways_41, KX8_isAlways_45, KX8_isAlways_46, lkC, s1C, s2C, dlC, kyC, Nat.beq, Nat.ble, rcd, rno, rsw, Nat.reduceAdd, Nat.reduceBEq, Nat.reduceDiv, List.drop, List.take, List.reverse, List.reverseAux, Int.toNat, Option.toList, List.append, List.cons_append, List.nil_append, zg70, zg71, zg279]
        try dsimp only [Qz_isAlways]
        refine ⟨_, rfl, ?_, rfl⟩
        unfold alwT
        rw [if_neg (by omega), hk54, Int.toNat_natCast, Int32.ofInt_toInt]
        rw [decide_eq_true (show ¬ (T.1 kx54).2.1 = 0 by omega), decide_eq_false (show ¬ (T.1 kx54).2.2.1 = p1.toInt64 from fun q9 => absurd (ld70 (f69.trans q9)) (by omega))]
        show _ = (0 : Int)
        omega
      · have g71 := (eqI (x := (lg_cmp (fLC σ (A kx54) 71) p1.toInt64)) (y := 0) h71 : ((lg_cmp (fLC σ (A kx54) 71) p1.toInt64) : Int32).toInt = (0 : Int32).toInt)
        have z0_ : (0 : Int32).toInt = 0 := rfl
        refine hB _ _ _ _ _ (fun m75 hm75 => ?_)
        dsimp only [ucgo, ucwp, ucsC, uqC, uoC, ctC, rfd, KX8_isAlways, KX8_isAlways_0, KX8_isAlways_7, KX8_isAlways_12, KX8_isAlways_16, KX8_isAlways_17, KX8_isAlways_18, KX8_isAlways_28, KX8_isAlways_41, KX8_isAlways_45, KX8_isAlways_46, lkC, s1C, s2C, dlC, kyC, Nat.beq, Nat.ble, rcd, rno, rsw, Nat.reduceAdd, Nat.reduceBEq, Nat.reduceDiv, List.drop, List.take, List.reverse, List.reverseAux, Int.toNat, Option.toList, List.append, List.cons_append, List.nil_append, zg70, zg71, zg279]
        have c76 : (Int32.ofInt 1).toInt = 1 := by decide
        refine hB _ _ _ _ _ (fun m77 hm77 => ?_)
        dsimp only [ucgo, ucwp, ucsC, uqC, uoC, ctC, rfd, KX8_isAlways, KX8_isAlways_0, KX8_isAlways_7, KX8_isAlways_12, KX8_isAlways_16, KX8_isAlways_17, KX8_isAlways_18, KX8_isAlways_28, KX8_isAlways_41, KX8_isAlways_45, KX8_isAlways_46, lkC, s1C, s2C, dlC, kyC, Nat.beq, Nat.ble, rcd, rno, rsw, Nat.reduceAdd, Nat.reduceBEq, Nat.reduceDiv, List.drop, List.take, List.reverse, List.reverseAux, Int.toNat, Option.toList, List.append, List.cons_append, List.nil_append, zg70, zg71, zg279]
        try dsimp only [Qz_isAlways]
        refine ⟨_, rfl, ?_, rfl⟩
        unfold alwT
        rw [if_neg (by omega), hk54, Int.toNat_natCast, Int32.ofInt_toInt]
        rw [decide_eq_true (show ¬ (T.1 kx54).2.1 = 0 by omega), decide_eq_true (show (T.1 kx54).2.2.1 = p1.toInt64 from f69.symm.trans (lc70 (by omega)))]
        show _ = (1 : Int)
        omega
  · have hx54 := opA_nn (f53.symm.trans h54)
    refine hB _ _ _ _ _ (fun m78 hm78 => ?_)
    dsimp only [ucgo, ucwp, ucsC, uqC, uoC, ctC, rfd, KX8_isAlways, KX8_isAlways_0, KX8_isAlways_7, KX8_isAlways_12, KX8_isAlways_16, KX8_isAlways_17, KX8_isAlways_18, KX8_isAlways_28, KX8_isAlways_41, KX8_isAlways_45, KX8_isAlways_46, lkC, s1C, s2C, dlC, kyC, Nat.beq, Nat.ble, rcd, rno, rsw, Nat.reduceAdd, Nat.reduceBEq, Nat.reduceDiv, List.drop, List.take, List.reverse, List.reverseAux, Int.toNat, Option.toList, List.append, List.cons_append, List.nil_append, zg70, zg71, zg279]
    have c79 : (Int32.ofInt 1).toInt = 1 := by decide
    refine ⟨fun h80 => ?_, fun h80 => ?_⟩
    · have g80 := (neI (x := p1) (y := (Int32.ofInt 1)) h80 : ¬ (p1 : Int32).toInt = ((Int32.ofInt 1) : Int32).toInt)
      refine hB _ _ _ _ _ (fun m81 hm81 => ?_)
      dsimp only [ucgo, ucwp, ucsC, uqC, uoC, ctC, rfd, KX8_isAlways, KX8_isAlways_0, KX8_isAlways_7, KX8_isAlways_12, KX8_isAlways_16, KX8_isAlways_17, KX8_isAlways_18, KX8_isAlways_28, KX8_isAlways_41, KX8_isAlways_45, KX8_isAlways_46, lkC, s1C, s2C, dlC, kyC, Nat.beq, Nat.ble, rcd, rno, rsw, Nat.reduceAdd, Nat.reduceBEq, Nat.reduceDiv, List.drop, List.take, List.reverse, List.reverseAux, Int.toNat, Option.toList, List.append, List.cons_append, List.nil_append, zg70, zg71, zg279]
      have c82 : (Int32.ofInt 0).toInt = 0 := by decide
      refine hB _ _ _ _ _ (fun m83 hm83 => ?_)
      dsimp only [ucgo, ucwp, ucsC, uqC, uoC, ctC, rfd, KX8_isAlways, KX8_isAlways_0, KX8_isAlways_7, KX8_isAlways_12, KX8_isAlways_16, KX8_isAlways_17, KX8_isAlways_18, KX8_isAlways_28, KX8_isAlways_41, KX8_isAlways_45, KX8_isAlways_46, lkC, s1C, s2C, dlC, kyC, Nat.beq, Nat.ble, rcd, rno, rsw, Nat.reduceAdd, Nat.reduceBEq, Nat.reduceDiv, List.drop, List.take, List.reverse, List.reverseAux, Int.toNat, Option.toList, List.append, List.cons_append, List.nil_append, zg70, zg71, zg279]
      try dsimp only [Qz_isAlways]
      refine ⟨_, rfl, ?_, rfl⟩
      unfold alwT
      rw [if_pos hx54, decide_eq_false (show ¬ p1.toInt = 1 by omega)]
      show _ = (0 : Int)
      omega
    · have g80 := (eqI (x := p1) (y := (Int32.ofInt 1)) h80 : (p1 : Int32).toInt = ((Int32.ofInt 1) : Int32).toInt)
      refine hB _ _ _ _ _ (fun m84 hm84 => ?_)
      dsimp only [ucgo, ucwp, ucsC, uqC, uoC, ctC, rfd, KX8_isAlways, KX8_isAlways_0, KX8_isAlways_7, KX8_isAlways_12, KX8_isAlways_16, KX8_isAlways_17, KX8_isAlways_18, KX8_isAlways_28, KX8_isAlways_41, KX8_isAlways_45, KX8_isAlways_46, lkC, s1C, s2C, dlC, kyC, Nat.beq, Nat.ble, rcd, rno, rsw, Nat.reduceAdd, Nat.reduceBEq, Nat.reduceDiv, List.drop, List.take, List.reverse, List.reverseAux, Int.toNat, Option.toList, List.append, List.cons_append, List.nil_append, zg70, zg71, zg279]
      have c85 : (Int32.ofInt 1).toInt = 1 := by decide
      refine hB _ _ _ _ _ (fun m86 hm86 => ?_)
      dsimp only [ucgo, ucwp, ucsC, uqC, uoC, ctC, rfd, KX8_isAlways, KX8_isAlways_0, KX8_isAlways_7, KX8_isAlways_12, KX8_isAlways_16, KX8_isAlways_17, KX8_isAlways_18, KX8_isAlways_28, KX8_isAlways_41, KX8_isAlways_45, KX8_isAlways_46, lkC, s1C, s2C, dlC, kyC, Nat.beq, Nat.ble, rcd, rno, rsw, Nat.reduceAdd, Nat.reduceBEq, Nat.reduceDiv, List.drop, List.take, List.reverse, List.reverseAux, Int.toNat, Option.toList, List.append, List.cons_append, List.nil_append, zg70, zg71, zg279]
      try dsimp only [Qz_isAlways]
      refine ⟨_, rfl, ?_, rfl⟩
      unfold alwT
      rw [if_pos hx54, decide_eq_true (show p1.toInt = 1 by omega)]
      show _ = (1 : Int)
      omega
theorem wz_isAlways : ∀ (L : Nat) (As : List AvC) (σ : CsC) (w : Option AvC) (τ : CsC), EvF L 183 As σ w τ → Uz_isAlways As σ w τ := by
  intro L
  cases L with
  | zero => exact fun _ _ _ _ h => h.elim
  | succ L => exact fun As σ w τ h y hy => EvF.us (cs := []) (pz_isAlways y) rfl (fun _ h => absurd h List.not_mem_nil) h hy
