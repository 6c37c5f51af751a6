abbrev Qp_isLetter : CqC := fun As σ w τ => match As with
  | [.inl p0] => ∀ r, w = some (.inl r) → r.toInt = if isLY p0.toInt then 1 else 0
  | _ => True
abbrev U_isLetter : CqC := fun As σ w τ => ∀ _y : Unit, True → Qp_isLetter As σ w τ
theorem p_isLetter : PbC KX9_isLetter [] [] (fun As σ => P_X9_isLetter As σ ∧ True) Qp_isLetter := by
  rintro As σ ⟨⟨p0, rfl, H0⟩, -⟩ K hB hW n
  change K n 0 [(0, .inl p0)] [] σ
  refine hB _ _ _ _ _ (fun m1 hm1 => ?_)
  dsimp only [ucgo, ucwp, ucsC, uqC, uoC, ctC, rfd, KX9_isLetter, KX9_isLetter_0, KX9_isLetter_6, KX9_isLetter_12, KX9_isLetter_18, KX9_isLetter_24, KX9_isLetter_28, KX9_isLetter_29, lkC, s1C, s2C, dlC, kyC, Nat.beq, rcd, rno, Nat.reduceAdd, Nat.reduceBEq, Nat.reduceDiv, List.drop, List.take, List.reverse, List.reverseAux, Int.toNat, Option.toList, List.append, List.cons_append, List.nil_append, fI_qI, fR_qI, fL_qI, fI_qL, fR_qL, fL_qL]
  have c2 : (Int32.ofInt 97).toInt = 97 := by decide
  refine ⟨fun h3 => ?_, fun h3 => ?_⟩
  · have g3 := ltI (x := p0) (y := (Int32.ofInt 97)) h3
    refine hB _ _ _ _ _ (fun m4 hm4 => ?_)
    dsimp only [ucgo, ucwp, ucsC, uqC, uoC, ctC, rfd, KX9_isLetter, KX9_isLetter_0, KX9_isLetter_6, KX9_isLetter_12, KX9_isLetter_18, KX9_isLetter_24, KX9_isLetter_28, KX9_isLetter_29, lkC, s1C, s2C, dlC, kyC, Nat.beq, rcd, rno, Nat.reduceAdd, Nat.reduceBEq, Nat.reduceDiv, List.drop, List.take, List.reverse, List.reverseAux, Int.toNat, Option.toList, List.append, List.cons_append, List.nil_append, fI_qI, fR_qI, fL_qI, fI_qL, fR_qL, fL_qL]
    have c5 : (Int32.ofInt 65).toInt = 65 := by decide
    refine ⟨fun h6 => ?_, fun h6 => ?_⟩
    · have g6 := ltI (x := p0) (y := (Int32.ofInt 65)) h6
      refine hB _ _ _ _ _ (fun m7 hm7 => ?_)
      dsimp only [ucgo, ucwp, ucsC, uqC, uoC, ctC, rfd, KX9_isLetter, KX9_isLetter_0, KX9_isLetter_6, KX9_isLetter_12, KX9_isLetter_18, KX9_isLetter_24, KX9_isLetter_28, KX9_isLetter_29, lkC, s1C, s2C, dlC, kyC, Nat.beq, rcd, rno, Nat.reduceAdd, Nat.reduceBEq, Nat.reduceDiv, List.drop, List.take, List.reverse, List.reverseAux, Int.toNat, Option.toList, List.append, List.cons_append, List.nil_append, fI_qI, fR_qI, fL_qI, fI_qL, fR_qL, fL_qL]
      have c8 : (Int32.ofInt 0).toInt = 0 := by decide
      refine hB _ _ _ _ _ (fun m9 hm9 => ?_)
      dsimp only [ucgo, ucwp, ucsC, uqC, uoC, ctC, rfd, KX9_isLetter, KX9_isLetter_0, KX9_isLetter_6, KX9_isLetter_12, KX9_isLetter_18, KX9_isLetter_24, KX9_isLetter_28, KX9_isLetter_29, lkC, s1C, s2C, dlC, kyC, Nat.beq, rcd, rno, Nat.reduceAdd, Nat.reduceBEq, Nat.reduceDiv, List.drop, List.take, List.reverse, List.reverseAux, Int.toNat, Option.toList, List.append, List.cons_append, List.nil_append, fI_qI, fR_qI, fL_qI, fI_qL, fR_qL, fL_qL]
      intro r9 e9
      cases e9
      rw [if_neg (by unfold isLY; omega)]; rfl
    · have g6 := nltI (x := p0) (y := (Int32.ofInt 65)) h6
      refine hB _ _ _ _ _ (fun m10 hm10 => ?_)
      dsimp only [ucgo, ucwp, ucsC, uqC, uoC, ctC, rfd, KX9_isLetter, KX9_isLetter_0, KX9_isLetter_6, KX9_isLetter_12, KX9_isLetter_18, KX9_isLetter_24, KX9_isLetter_28, KX9_isLetter_29, lkC, s1C, s2C, dlC, kyC, Nat.beq, rcd, rno, Nat.reduceAdd, Nat.reduceBEq, Nat.reduceDiv, List.drop, List.take, List.reverse, List.reverseAux, Int.toNat, Option.toList, List.append, List.cons_append, List.nil_append, fI_qI, fR_qI, fL_qI, fI_qL, fR_qL, fL_qL]
      have c11 : (Int32.ofInt 90).toInt = 90 := by decide
      refine ⟨fun h12 => ?_, fun h12 => ?_⟩
      · have g12 := ltI (x := (Int32.ofInt 90)) (y := p0) h12
        refine hB _ _ _ _ _ (fun m13 hm13 => ?_)
        dsimp only [ucgo, ucwp, ucsC, uqC, uoC, ctC, rfd, KX9_isLetter, KX9_isLetter_0, KX9_isLetter_6, KX9_isLetter_12, KX9_isLetter_18, KX9_isLetter_24, KX9_isLetter_28, KX9_isLetter_29, lkC, s1C, s2C, dlC, kyC, Nat.beq, rcd, rno, Nat.reduceAdd, Nat.reduceBEq, Nat.reduceDiv, List.drop, List.take, List.reverse, List.reverseAux, Int.toNat, Option.toList, List.append, List.cons_append, List.nil_append, fI_qI, fR_qI, fL_qI, fI_qL, fR_qL, fL_qL]
        have c14 : (Int32.ofInt 0).toInt = 0 := by decide
        refine hB _ _ _ _ _ (fun m15 hm15 => ?_)
        dsimp only [ucgo, ucwp, ucsC, uqC, uoC, ctC, rfd, KX9_isLetter, KX9_isLetter_0, KX9_isLetter_6, KX9_isLetter_12, KX9_isLetter_18, KX9_isLetter_24, KX9_isLetter_28, KX9_isLetter_29, lkC, s1C, s2C, dlC, kyC, Nat.beq, rcd, rno, Nat.reduceAdd, Nat.reduceBEq, Nat.reduceDiv, List.drop, List.take, List.reverse, List.reverseAux, Int.toNat, Option.toList, List.append, List.cons_append, List.nil_append, fI_qI, fR_qI, fL_qI, fI_qL, fR_qL, fL_qL]
        intro r9 e9
        cases e9
        rw [if_neg (by unfold isLY; omega)]; rfl
      · have g12 := nltI (x := (Int32.ofInt 90)) (y := p0) h12
        refine hB _ _ _ _ _ (fun m16 hm16 => ?_)
        dsimp only [ucgo, ucwp, ucsC, uqC, uoC, ctC, rfd, KX9_isLetter, KX9_isLetter_0, KX9_isLetter_6, KX9_isLetter_12, KX9_isLetter_18, KX9_isLetter_24, KX9_isLetter_28, KX9_isLetter_29, lkC, s1C, s2C, dlC, kyC, Nat.beq, rcd, rno, Nat.reduceAdd, Nat.reduceBEq, Nat.reduceDiv, List.drop, List.take, List.reverse, List.reverseAux, Int.toNat, Option.toList, List.append, List.cons_append, List.nil_append, fI_qI, fR_qI, fL_qI, fI_qL, fR_qL, fL_qL]
        have c17 : (Int32.ofInt 1).toInt = 1 := by decide
        refine hB _ _ _ _ _ (fun m18 hm18 => ?_)
        dsimp only [ucgo, ucwp, ucsC, uqC, uoC, ctC, rfd, KX9_isLetter, KX9_isLetter_0, KX9_isLetter_6, KX9_isLetter_12, KX9_isLetter_18, KX9_isLetter_24, KX9_isLetter_28, KX9_isLetter_29, lkC, s1C, s2C, dlC, kyC, Nat.beq, rcd, rno, Nat.reduceAdd, Nat.reduceBEq, Nat.reduceDiv, List.drop, List.take, List.reverse, List.reverseAux, Int.toNat, Option.toList, List.append, List.cons_append, List.nil_append, fI_qI, fR_qI, fL_qI, fI_qL, fR_qL, fL_qL]
        intro r9 e9
        cases e9
        rw [if_pos (by unfold isLY; omega)]; rfl
  · have g3 := nltI (x := p0) (y := (Int32.ofInt 97)) h3
    refine hB _ _ _ _ _ (fun m19 hm19 => ?_)
    dsimp only [ucgo, ucwp, ucsC, uqC, uoC, ctC, rfd, KX9_isLetter, KX9_isLetter_0, KX9_isLetter_6, KX9_isLetter_12, KX9_isLetter_18, KX9_isLetter_24, KX9_isLetter_28, KX9_isLetter_29, lkC, s1C, s2C, dlC, kyC, Nat.beq, rcd, rno, Nat.reduceAdd, Nat.reduceBEq, Nat.reduceDiv, List.drop, List.take, List.reverse, List.reverseAux, Int.toNat, Option.toList, List.append, List.cons_append, List.nil_append, fI_qI, fR_qI, fL_qI, fI_qL, fR_qL, fL_qL]
    have c20 : (Int32.ofInt 122).toInt = 122 := by decide
    refine ⟨fun h21 => ?_, fun h21 => ?_⟩
    · have g21 := leI (x := p0) (y := (Int32.ofInt 122)) h21
      refine hB _ _ _ _ _ (fun m22 hm22 => ?_)
      dsimp only [ucgo, ucwp, ucsC, uqC, uoC, ctC, rfd, KX9_isLetter, KX9_isLetter_0, KX9_isLetter_6, KX9_isLetter_12, KX9_isLetter_18, KX9_isLetter_24, KX9_isLetter_28, KX9_isLetter_29, lkC, s1C, s2C, dlC, kyC, Nat.beq, rcd, rno, Nat.reduceAdd, Nat.reduceBEq, Nat.reduceDiv, List.drop, List.take, List.reverse, List.reverseAux, Int.toNat, Option.toList, List.append, List.cons_append, List.nil_append, fI_qI, fR_qI, fL_qI, fI_qL, fR_qL, fL_qL]
      have c23 : (Int32.ofInt 1).toInt = 1 := by decide
      refine hB _ _ _ _ _ (fun m24 hm24 => ?_)
      dsimp only [ucgo, ucwp, ucsC, uqC, uoC, ctC, rfd, KX9_isLetter, KX9_isLetter_0, KX9_isLetter_6, KX9_isLetter_12, KX9_isLetter_18, KX9_isLetter_24, KX9_isLetter_28, KX9_isLetter_29, lkC, s1C, s2C, dlC, kyC, Nat.beq, rcd, rno, Nat.reduceAdd, Nat.reduceBEq, Nat.reduceDiv, List.drop, List.take, List.reverse, List.reverseAux, Int.toNat, Option.toList, List.append, List.cons_append, List.nil_append, fI_qI, fR_qI, fL_qI, fI_qL, fR_qL, fL_qL]
      intro r9 e9
      cases e9
      rw [if_pos (by unfold isLY; omega)]; rfl
    · have g21 := nleI (x := p0) (y := (Int32.ofInt 122)) h21
      refine hB _ _ _ _ _ (fun m25 hm25 => ?_)
      dsimp only [ucgo, ucwp, ucsC, uqC, uoC, ctC, rfd, KX9_isLetter, KX9_isLetter_0, KX9_isLetter_6, KX9_isLetter_12, KX9_isLetter_18, KX9_isLetter_24, KX9_isLetter_28, KX9_isLetter_29, lkC, s1C, s2C, dlC, kyC, Nat.beq, rcd, rno, Nat.reduceAdd, Nat.reduceBEq, Nat.reduceDiv, List.drop, List.take, List.reverse, List.reverseAux, Int.toNat, Option.toList, List.append, List.cons_append, List.nil_append, fI_qI, fR_qI, fL_qI, fI_qL, fR_qL, fL_qL]
      have c26 : (Int32.ofInt 65).toInt = 65 := by decide
      refine ⟨fun h27 => ?_, fun h27 => ?_⟩
      · have g27 := ltI (x := p0) (y := (Int32.ofInt 65)) h27
        refine hB _ _ _ _ _ (fun m28 hm28 => ?_)
        dsimp only [ucgo, ucwp, ucsC, uqC, uoC, ctC, rfd, KX9_isLetter, KX9_isLetter_0, KX9_isLetter_6, KX9_isLetter_12, KX9_isLetter_18, KX9_isLetter_24, KX9_isLetter_28, KX9_isLetter_29, lkC, s1C, s2C, dlC, kyC, Nat.beq, rcd, rno, Nat.reduceAdd, Nat.reduceBEq, Nat.reduceDiv, List.drop, List.take, List.reverse, List.reverseAux, Int.toNat, Option.toList, List.append, List.cons_append, List.nil_append, fI_qI, fR_qI, fL_qI, fI_qL, fR_qL, fL_qL]
        have c29 : (Int32.ofInt 0).toInt = 0 := by decide
        refine hB _ _ _ _ _ (fun m30 hm30 => ?_)
        dsimp only [ucgo, ucwp, ucsC, uqC, uoC, ctC, rfd, KX9_isLetter, KX9_isLetter_0, KX9_isLetter_6, KX9_isLetter_12, KX9_isLetter_18, KX9_isLetter_24, KX9_isLetter_28, KX9_isLetter_29, lkC, s1C, s2C, dlC, kyC, Nat.beq, rcd, rno, Nat.reduceAdd, Nat.reduceBEq, Nat.reduceDiv, List.drop, List.take, List.reverse, List.reverseAux, Int.toNat, Option.toList, List.append, List.cons_append, List.nil_append, fI_qI, fR_qI, fL_qI, fI_qL, fR_qL, fL_qL]
        intro r9 e9
        cases e9
        rw [if_neg (by unfold isLY; omega)]; rfl
      · have g27 := nltI (x := p0) (y := (Int32.ofInt 65)) h27
        refine hB _ _ _ _ _ (fun m31 hm31 => ?_)
        dsimp only [ucgo, ucwp, ucsC, uqC, uoC, ctC, rfd, KX9_isLetter, KX9_isLetter_0, KX9_isLetter_6, KX9_isLetter_12, KX9_isLetter_18, KX9_isLetter_24, KX9_isLetter_28, KX9_isLetter_29, lkC, s1C, s2C, dlC, kyC, Nat.beq, rcd, rno, Nat.reduceAdd, Nat.reduceBEq, Nat.reduceDiv, List.drop, List.take, List.reverse, List.reverseAux, Int.toNat, Option.toList, List.append, List.cons_append, List.nil_append, fI_qI, fR_qI, fL_qI, fI_qL, fR_qL, fL_qL]
        have c32 : (Int32.ofInt 90).toInt = 90 := by decide
        refine ⟨fun h33 => ?_, fun h33 => ?_⟩
        · have g33 := ltI (x := (Int32.ofInt 90)) (y := p0) h33
          refine hB _ _ _ _ _ (fun m34 hm34 => ?_)
          dsimp only [ucgo, ucwp, ucsC, uqC, uoC, ctC, rfd, KX9_isLetter, KX9_isLetter_0, KX9_isLetter_6, KX9_isLetter_12, KX9_isLetter_18, KX9_isLetter_24, KX9_isLetter_28, KX9_isLetter_29, lkC, s1C, s2C, dlC, kyC, Nat.beq, rcd, rno, Nat.reduceAdd, Nat.reduceBEq, Nat.reduceDiv, List.drop, List.take, List.reverse, List.reverseAux, Int.toNat, Option.toList, List.append, List.cons_append, List.nil_append, fI_qI, fR_qI, fL_qI, fI_qL, fR_qL, fL_qL]
          have c35 : (Int32.ofInt 0).toInt = 0 := by decide
          refine hB _ _ _ _ _ (fun m36 hm36 => ?_)
          dsimp only [ucgo, ucwp, ucsC, uqC, uoC, ctC, rfd, KX9_isLetter, KX9_isLetter_0, KX9_isLetter_6, KX9_isLetter_12, KX9_isLetter_18, KX9_isLetter_24, KX9_isLetter_28, KX9_isLetter_29, lkC, s1C, s2C, dlC, kyC, Nat.beq, rcd, rno, Nat.reduceAdd, Nat.reduceBEq, Nat.reduceDiv, List.drop, List.take, List.reverse, List.reverseAux, Int.toNat, Option.toList, List.append, List.cons_append, List.nil_append, fI_qI, fR_qI, fL_qI, fI_qL, fR_qL, fL_qL]
          intro r9 e9
          cases e9
          rw [if_neg (by unfold isLY; omega)]; rfl
        · have g33 := nltI (x := (Int32.ofInt 90)) (y := p0) h33
          refine hB _ _ _ _ _ (fun m37 hm37 => ?_)
          dsimp only [ucgo, ucwp, ucsC, uqC, uoC, ctC, rfd, KX9_isLetter, KX9_isLetter_0, KX9_isLetter_6, KX9_isLetter_12, KX9_isLetter_18, KX9_isLetter_24, KX9_isLetter_28, KX9_isLetter_29, lkC, s1C, s2C, dlC, kyC, Nat.beq, rcd, rno, Nat.reduceAdd, Nat.reduceBEq, Nat.reduceDiv, List.drop, List.take, List.reverse, List.reverseAux, Int.toNat, Option.toList, List.append, List.cons_append, List.nil_append, fI_qI, fR_qI, fL_qI, fI_qL, fR_qL, fL_qL]
          have c38 : (Int32.ofInt 1).toInt = 1 := by decide
          refine hB _ _ _ _ _ (fun m39 hm39 => ?_)
          dsimp only [ucgo, ucwp, ucsC, uqC, uoC, ctC, rfd, KX9_isLetter, KX9_isLetter_0, KX9_isLetter_6, KX9_isLetter_12, KX9_isLetter_18, KX9_isLetter_24, KX9_isLetter_28, KX9_isLetter_29, lkC, s1C, s2C, dlC, kyC, Nat.beq, rcd, rno, Nat.reduceAdd, Nat.reduceBEq, Nat.reduceDiv, List.drop, List.take, List.reverse, List.reverseAux, Int.toNat, Option.toList, List.append, List.cons_append, List.nil_append, fI_qI, fR_qI, fL_qI, fI_qL, fR_qL, fL_qL]
          intro r9 e9
          cases e9
          rw [if_pos (by unfold isLY; omega)]; rfl
theorem n_isLetter (l : Launch) : CMetC l 1 192 P_X9_isLetter (fun As σ w τ => Q_X9_isLetter As σ w τ ∧ U_isLetter As σ w τ) := CMetC.of KX9_isLetter (uc2C [] []) hX9_isLetter (by decide) (by decide) okX9_isLetter cc0C lg_X9_isLetter (b_X9_isLetter.and (P2 := fun _ _ _ => True) (fun _ => p_isLetter))
abbrev Qp_isDigit : CqC := fun As σ w τ => match As with
  | [.inl p0] => ∀ r, w = some (.inl r) → r.toInt = if isDY p0.toInt then 1 else 0
  | _ => True
abbrev U_isDigit : CqC := fun As σ w τ => ∀ _y : Unit, True → Qp_isDigit As σ w τ
theorem p_isDigit : PbC KX9_isDigit [] [] (fun As σ => P_X9_isDigit As σ ∧ True) Qp_isDigit := by
  rintro As σ ⟨⟨p0, rfl, H0⟩, -⟩ K hB hW n
  change K n 0 [(0, .inl p0)] [] σ
  refine hB _ _ _ _ _ (fun m1 hm1 => ?_)
  dsimp only [ucgo, ucwp, ucsC, uqC, uoC, ctC, rfd, KX9_isDigit, KX9_isDigit_0, KX9_isDigit_6, KX9_isDigit_12, KX9_isDigit_16, KX9_isDigit_17, lkC, s1C, s2C, dlC, kyC, Nat.beq, rcd, rno, Nat.reduceAdd, Nat.reduceBEq, Nat.reduceDiv, List.drop, List.take, List.reverse, List.reverseAux, Int.toNat, Option.toList, List.append, List.cons_append, List.nil_append, fI_qI, fR_qI, fL_qI, fI_qL, fR_qL, fL_qL]
  have c2 : (Int32.ofInt 48).toInt = 48 := by decide
  refine ⟨fun h3 => ?_, fun h3 => ?_⟩
  · have g3 := ltI (x := p0) (y := (Int32.ofInt 48)) h3
    refine hB _ _ _ _ _ (fun m4 hm4 => ?_)
    dsimp only [ucgo, ucwp, ucsC, uqC, uoC, ctC, rfd, KX9_isDigit, KX9_isDigit_0, KX9_isDigit_6, KX9_isDigit_12, KX9_isDigit_16, KX9_isDigit_17, lkC, s1C, s2C, dlC, kyC, Nat.beq, rcd, rno, Nat.reduceAdd, Nat.reduceBEq, Nat.reduceDiv, List.drop, List.take, List.reverse, List.reverseAux, Int.toNat, Option.toList, List.append, List.cons_append, List.nil_append, fI_qI, fR_qI, fL_qI, fI_qL, fR_qL, fL_qL]
    have c5 : (Int32.ofInt 0).toInt = 0 := by decide
    refine hB _ _ _ _ _ (fun m6 hm6 => ?_)
    dsimp only [ucgo, ucwp, ucsC, uqC, uoC, ctC, rfd, KX9_isDigit, KX9_isDigit_0, KX9_isDigit_6, KX9_isDigit_12, KX9_isDigit_16, KX9_isDigit_17, lkC, s1C, s2C, dlC, kyC, Nat.beq, rcd, rno, Nat.reduceAdd, Nat.reduceBEq, Nat.reduceDiv, List.drop, List.take, List.reverse, List.reverseAux, Int.toNat, Option.toList, List.append, List.cons_append, List.nil_append, fI_qI, fR_qI, fL_qI, fI_qL, fR_qL, fL_qL]
    intro r9 e9
    cases e9
    rw [if_neg (by unfold isDY; omega)]; rfl
  · have g3 := nltI (x := p0) (y := (Int32.ofInt 48)) h3
    refine hB _ _ _ _ _ (fun m7 hm7 => ?_)
    dsimp only [ucgo, ucwp, ucsC, uqC, uoC, ctC, rfd, KX9_isDigit, KX9_isDigit_0, KX9_isDigit_6, KX9_isDigit_12, KX9_isDigit_16, KX9_isDigit_17, lkC, s1C, s2C, dlC, kyC, Nat.beq, rcd, rno, Nat.reduceAdd, Nat.reduceBEq, Nat.reduceDiv, List.drop, List.take, List.reverse, List.reverseAux, Int.toNat, Option.toList, List.append, List.cons_append, List.nil_append, fI_qI, fR_qI, fL_qI, fI_qL, fR_qL, fL_qL]
    have c8 : (Int32.ofInt 57).toInt = 57 := by decide
    refine ⟨fun h9 => ?_, fun h9 => ?_⟩
    · have g9 := ltI (x := (Int32.ofInt 57)) (y := p0) h9
      refine hB _ _ _ _ _ (fun m10 hm10 => ?_)
      dsimp only [ucgo, ucwp, ucsC, uqC, uoC, ctC, rfd, KX9_isDigit, KX9_isDigit_0, KX9_isDigit_6, KX9_isDigit_12, KX9_isDigit_16, KX9_isDigit_17, lkC, s1C, s2C, dlC, kyC, Nat.beq, rcd, rno, Nat.reduceAdd, Nat.reduceBEq, Nat.reduceDiv, List.drop, List.take, List.reverse, List.reverseAux, Int.toNat, Option.toList, List.append, List.cons_append, List.nil_append, fI_qI, fR_qI, fL_qI, fI_qL, fR_qL, fL_qL]
      have c11 : (Int32.ofInt 0).toInt = 0 := by decide
      refine hB _ _ _ _ _ (fun m12 hm12 => ?_)
      dsimp only [ucgo, ucwp, ucsC, uqC, uoC, ctC, rfd, KX9_isDigit, KX9_isDigit_0, KX9_isDigit_6, KX9_isDigit_12, KX9_isDigit_16, KX9_isDigit_17, lkC, s1C, s2C, dlC, kyC, Nat.beq, rcd, rno, Nat.reduceAdd, Nat.reduceBEq, Nat.reduceDiv, List.drop, List.take, List.reverse, List.reverseAux, Int.toNat, Option.toList, List.append, List.cons_append, List.nil_append, fI_qI, fR_qI, fL_qI, fI_qL, fR_qL, fL_qL]
      intro r9 e9
      cases e9
      rw [if_neg (by unfold isDY; omega)]; rfl
    · have g9 := nltI (x := (Int32.ofInt 57)) (y := p0) h9
      refine hB _ _ _ _ _ (fun m13 hm13 => ?_)
      dsimp only [ucgo, ucwp, ucsC, uqC, uoC, ctC, rfd, KX9_isDigit, KX9_isDigit_0, KX9_isDigit_6, KX9_isDigit_12, KX9_isDigit_16, KX9_isDigit_17, lkC, s1C, s2C, dlC, kyC, Nat.beq, rcd, rno, Nat.reduceAdd, Nat.reduceBEq, Nat.reduceDiv, List.drop, List.take, List.reverse, List.reverseAux, Int.toNat, Option.toList, List.append, List.cons_append, List.nil_append, fI_qI, fR_qI, fL_qI, fI_qL, fR_qL, fL_qL]
      have c14 : (Int32.ofInt 1).toInt = 1 := by decide
      refine hB _ _ _ _ _ (fun m15 hm15 => ?_)
      dsimp only [ucgo, ucwp, ucsC, uqC, uoC, ctC, rfd, KX9_isDigit, KX9_isDigit_0, KX9_isDigit_6, KX9_isDigit_12, KX9_isDigit_16, KX9_isDigit_17, lkC, s1C, s2C, dlC, kyC, Nat.beq, rcd, rno, Nat.reduceAdd, Nat.reduceBEq, Nat.reduceDiv, List.drop, List.take, List.reverse, List.reverseAux, Int.toNat, Option.toList, List.append, List.cons_append, List.nil_append, fI_qI, fR_qI, fL_qI, fI_qL, fR_qL, fL_qL]
      intro r9 e9
      cases e9
      rw [if_pos (by unfold isDY; omega)]; rfl
theorem n_isDigit (l : Launch) : CMetC l 1 193 P_X9_isDigit (fun As σ w τ => Q_X9_isDigit As σ w τ ∧ U_isDigit As σ w τ) := CMetC.of KX9_isDigit (uc2C [] []) hX9_isDigit (by decide) (by decide) okX9_isDigit cc0C lg_X9_isDigit (b_X9_isDigit.and (P2 := fun _ _ _ => True) (fun _ => p_isDigit))
