def dgK (b : Int) : Int := if 97 ≤ b then b - 97 + 37 else if 65 ≤ b then b - 65 + 11 else b - 48 + 1
abbrev Pp_longerKey (_y : Unit) : CpC := fun As σ => match As with
  | [.inr (.inl p0), .inl p1] => -1 ≤ p1.toInt ∧ p1.toInt ≤ 255
  | _ => False
abbrev Qp_longerKey (_y : Unit) : CqC := fun As σ w τ => match As with
  | [.inr (.inl p0), .inl p1] => ∀ v, w = some (.inr (.inl v)) → ∃ c : Int32, c.toInt = dgK p1.toInt ∧ v = (p0 <<< ((Int32.ofInt 6).toInt64 &&& 63)) ||| c.toInt64
  | _ => True
abbrev U_longerKey : CqC := fun As σ w τ => ∀ y, Pp_longerKey y As σ → Qp_longerKey y As σ w τ
theorem p_longerKey (y : Unit) : PbC KX9_longerKey [] [] (fun As σ => P_X9_longerKey As σ ∧ Pp_longerKey y As σ) (Qp_longerKey y) := by
  rintro As σ ⟨⟨p0, p1, rfl, H0⟩, hp⟩ K hB hW n
  replace hp : -1 ≤ p1.toInt ∧ p1.toInt ≤ 255 := hp
  change K n 0 [(0, .inr (.inl p0)), (2, .inl p1)] [] σ
  refine hB _ _ _ _ _ (fun m1 hm1 => ?_)
  dsimp only [ucgo, ucwp, ucsC, uqC, uoC, ctC, rfd, KX9_longerKey, KX9_longerKey_0, KX9_longerKey_6, KX9_longerKey_16, KX9_longerKey_22, KX9_longerKey_32, KX9_longerKey_38, lkC, s1C, s2C, dlC, kyC, Nat.beq, rcd, rno, Nat.reduceAdd, Nat.reduceBEq, Nat.reduceDiv, List.drop, List.take, List.reverse, List.reverseAux, Int.toNat, Option.toList, List.append, List.cons_append, List.nil_append, fI_qI, fR_qI, fL_qI, fI_qL, fR_qL, fL_qL]
  have c2 : (Int32.ofInt 97).toInt = 97 := by decide
  refine ⟨fun h3 => ?_, fun h3 => ?_⟩
  · have g3 := ltI (x := p1) (y := (Int32.ofInt 97)) h3
    refine hB _ _ _ _ _ (fun m4 hm4 => ?_)
    dsimp only [ucgo, ucwp, ucsC, uqC, uoC, ctC, rfd, KX9_longerKey, KX9_longerKey_0, KX9_longerKey_6, KX9_longerKey_16, KX9_longerKey_22, KX9_longerKey_32, KX9_longerKey_38, lkC, s1C, s2C, dlC, kyC, Nat.beq, rcd, rno, Nat.reduceAdd, Nat.reduceBEq, Nat.reduceDiv, List.drop, List.take, List.reverse, List.reverseAux, Int.toNat, Option.toList, List.append, List.cons_append, List.nil_append, fI_qI, fR_qI, fL_qI, fI_qL, fR_qL, fL_qL]
    have c5 : (Int32.ofInt 65).toInt = 65 := by decide
    refine ⟨fun h6 => ?_, fun h6 => ?_⟩
    · have g6 := ltI (x := p1) (y := (Int32.ofInt 65)) h6
      refine hB _ _ _ _ _ (fun m7 hm7 => ?_)
      dsimp only [ucgo, ucwp, ucsC, uqC, uoC, ctC, rfd, KX9_longerKey, KX9_longerKey_0, KX9_longerKey_6, KX9_longerKey_16, KX9_longerKey_22, KX9_longerKey_32, KX9_longerKey_38, lkC, s1C, s2C, dlC, kyC, Nat.beq, rcd, rno, Nat.reduceAdd, Nat.reduceBEq, Nat.reduceDiv, List.drop, List.take, List.reverse, List.reverseAux, Int.toNat, Option.toList, List.append, List.cons_append, List.nil_append, fI_qI, fR_qI, fL_qI, fI_qL, fR_qL, fL_qL]
      have c8 : (Int32.ofInt 48).toInt = 48 := by decide
      have a9 : (p1 - (Int32.ofInt 48)).toInt = p1.toInt - 48 := subC (by omega) (by omega) (by omega)
      have c10 : (Int32.ofInt 1).toInt = 1 := by decide
      have a11 : ((p1 - (Int32.ofInt 48)) + (Int32.ofInt 1)).toInt = (p1.toInt - 48) + 1 := addC (by omega) (by omega) (by omega)
      refine hB _ _ _ _ _ (fun m12 hm12 => ?_)
      dsimp only [ucgo, ucwp, ucsC, uqC, uoC, ctC, rfd, KX9_longerKey, KX9_longerKey_0, KX9_longerKey_6, KX9_longerKey_16, KX9_longerKey_22, KX9_longerKey_32, KX9_longerKey_38, lkC, s1C, s2C, dlC, kyC, Nat.beq, rcd, rno, Nat.reduceAdd, Nat.reduceBEq, Nat.reduceDiv, List.drop, List.take, List.reverse, List.reverseAux, Int.toNat, Option.toList, List.append, List.cons_append, List.nil_append, fI_qI, fR_qI, fL_qI, fI_qL, fR_qL, fL_qL]
      have c13 : (Int32.ofInt 6).toInt = 6 := by decide
      intro v9 e9
      cases e9
      refine ⟨_, ?_, rfl⟩
      unfold dgK
      repeat' split
      all_goals omega
    · have g6 := nltI (x := p1) (y := (Int32.ofInt 65)) h6
      refine hB _ _ _ _ _ (fun m14 hm14 => ?_)
      dsimp only [ucgo, ucwp, ucsC, uqC, uoC, ctC, rfd, KX9_longerKey, KX9_longerKey_0, KX9_longerKey_6, KX9_longerKey_16, KX9_longerKey_22, KX9_longerKey_32, KX9_longerKey_38, lkC, s1C, s2C, dlC, kyC, Nat.beq, rcd, rno, Nat.reduceAdd, Nat.reduceBEq, Nat.reduceDiv, List.drop, List.take, List.reverse, List.reverseAux, Int.toNat, Option.toList, List.append, List.cons_append, List.nil_append, fI_qI, fR_qI, fL_qI, fI_qL, fR_qL, fL_qL]
      have c15 : (Int32.ofInt 65).toInt = 65 := by decide
      have a16 : (p1 - (Int32.ofInt 65)).toInt = p1.toInt - 65 := subC (by omega) (by omega) (by omega)
      have c17 : (Int32.ofInt 11).toInt = 11 := by decide
      have a18 : ((p1 - (Int32.ofInt 65)) + (Int32.ofInt 11)).toInt = (p1.toInt - 65) + 11 := addC (by omega) (by omega) (by omega)
      refine hB _ _ _ _ _ (fun m19 hm19 => ?_)
      dsimp only [ucgo, ucwp, ucsC, uqC, uoC, ctC, rfd, KX9_longerKey, KX9_longerKey_0, KX9_longerKey_6, KX9_longerKey_16, KX9_longerKey_22, KX9_longerKey_32, KX9_longerKey_38, lkC, s1C, s2C, dlC, kyC, Nat.beq, rcd, rno, Nat.reduceAdd, Nat.reduceBEq, Nat.reduceDiv, List.drop, List.take, List.reverse, List.reverseAux, Int.toNat, Option.toList, List.append, List.cons_append, List.nil_append, fI_qI, fR_qI, fL_qI, fI_qL, fR_qL, fL_qL]
      have c20 : (Int32.ofInt 6).toInt = 6 := by decide
      intro v9 e9
      cases e9
      refine ⟨_, ?_, rfl⟩
      unfold dgK
      repeat' split
      all_goals omega
  · have g3 := nltI (x := p1) (y := (Int32.ofInt 97)) h3
    refine hB _ _ _ _ _ (fun m21 hm21 => ?_)
    dsimp only [ucgo, ucwp, ucsC, uqC, uoC, ctC, rfd, KX9_longerKey, KX9_longerKey_0, KX9_longerKey_6, KX9_longerKey_16, KX9_longerKey_22, KX9_longerKey_32, KX9_longerKey_38, lkC, s1C, s2C, dlC, kyC, Nat.beq, rcd, rno, Nat.reduceAdd, Nat.reduceBEq, Nat.reduceDiv, List.drop, List.take, List.reverse, List.reverseAux, Int.toNat, Option.toList, List.append, List.cons_append, List.nil_append, fI_qI, fR_qI, fL_qI, fI_qL, fR_qL, fL_qL]
    have c22 : (Int32.ofInt 97).toInt = 97 := by decide
    have a23 : (p1 - (Int32.ofInt 97)).toInt = p1.toInt - 97 := subC (by omega) (by omega) (by omega)
    have c24 : (Int32.ofInt 37).toInt = 37 := by decide
    have a25 : ((p1 - (Int32.ofInt 97)) + (Int32.ofInt 37)).toInt = (p1.toInt - 97) + 37 := addC (by omega) (by omega) (by omega)
    refine hB _ _ _ _ _ (fun m26 hm26 => ?_)
    dsimp only [ucgo, ucwp, ucsC, uqC, uoC, ctC, rfd, KX9_longerKey, KX9_longerKey_0, KX9_longerKey_6, KX9_longerKey_16, KX9_longerKey_22, KX9_longerKey_32, KX9_longerKey_38, lkC, s1C, s2C, dlC, kyC, Nat.beq, rcd, rno, Nat.reduceAdd, Nat.reduceBEq, Nat.reduceDiv, List.drop, List.take, List.reverse, List.reverseAux, Int.toNat, Option.toList, List.append, List.cons_append, List.nil_append, fI_qI, fR_qI, fL_qI, fI_qL, fR_qL, fL_qL]
    have c27 : (Int32.ofInt 6).toInt = 6 := by decide
    intro v9 e9
    cases e9
    refine ⟨_, ?_, rfl⟩
    unfold dgK
    repeat' split
    all_goals omega
theorem n_longerKey (l : Launch) : CMetC l 1 185 P_X9_longerKey (fun As σ w τ => Q_X9_longerKey As σ w τ ∧ U_longerKey As σ w τ) := CMetC.of KX9_longerKey (uc2C [] []) hX9_longerKey (by decide) (by decide) okX9_longerKey cc0C lg_X9_longerKey (b_X9_longerKey.and p_longerKey)
