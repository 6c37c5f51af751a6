def FrC (σ τ : CsC) (p0 : Nat) : Prop := SaC σ τ ∨ ∃ d, OnC σ τ p0 d
abbrev Qp_cutOne (x : TxY) : CqC := fun As σ w τ => match As with
  | [.inr (.inr (some p0)), .inl p1] => ∀ r, w = some (.inl r) → r.toInt = (oneY x p1.toInt).1 ∧ (0 < r.toInt → OnC σ τ p0 (oneY x p1.toInt).2) ∧ FrC σ τ p0
  | _ => True
theorem on_n {x : TxY} {i : Int} (h : isLY (btY x i)) : oneY x i = if 10 < (naY x i).1 - i then (0, 85) else ((naY x i).1 - i, wcY (naY x i).2) := by unfold oneY; rw [if_pos h]
theorem on_d {x : TxY} {i : Int} (h : ¬ isLY (btY x i)) (h2 : isDY (btY x i)) : oneY x i = if 19 < nuY x i - i then (0, 85) else if btY x (nuY x i) = 76 then (nuY x i + 1 - i, 82) else (nuY x i - i, 81) := by unfold oneY; rw [if_neg h, if_pos h2]; rfl
theorem on_c {x : TxY} {i : Int} (h : ¬ isLY (btY x i)) (h2 : ¬ isDY (btY x i)) (h3 : btY x i = 39) : oneY x i = if chrY x i then (3, 83) else (0, 85) := by unfold oneY; rw [if_neg h, if_neg h2, if_pos h3]
theorem on_s {x : TxY} {i : Int} (h : ¬ isLY (btY x i)) (h2 : ¬ isDY (btY x i)) (h3 : ¬ btY x i = 39) : oneY x i = sgAY x i := by
  unfold oneY
  rw [if_neg h, if_neg h2, if_neg h3]
  unfold sgAY
  rw [show i + 1 + 1 = i + 2 by omega, show i + 2 + 1 = i + 3 by omega]
theorem lt1 {c : Int} (h : (97 ≤ c ∧ c ≤ 122) ∨ (65 ≤ c ∧ c ≤ 90)) : isLY c := h
theorem lt0 {c : Int} (h : ¬ ((97 ≤ c ∧ c ≤ 122) ∨ (65 ≤ c ∧ c ≤ 90))) : ¬ isLY c := h
theorem dg1 {c : Int} (h : 48 ≤ c ∧ c ≤ 57) : isDY c := h
theorem dg0 {c : Int} (h : ¬ (48 ≤ c ∧ c ≤ 57)) : ¬ isDY c := h
theorem p_cutOne (x : TxY) : PbC KX9_cutOne [(189, P_X9_byteAt, Q_X9_byteAt), (192, P_X9_isLetter, Q_X9_isLetter), (193, P_X9_isDigit, Q_X9_isDigit), (197, P_X9_cutSign, Q_X9_cutSign), (196, P_X9_cutCharacter, Q_X9_cutCharacter), (195, P_X9_cutNumber, Q_X9_cutNumber), (194, P_X9_cutName, Q_X9_cutName)] [(189, U_byteAt), (192, U_isLetter), (193, U_isDigit), (197, U_cutSign), (196, U_cutCharacter), (195, U_cutNumber), (194, U_cutName)] (fun As σ => P_X9_cutOne As σ ∧ Pp_name x As σ) (Qp_cutOne x) := by
  rintro As σ ⟨⟨p0, p1, rfl, H0, h0, -, -⟩, hx⟩ K hB hW n
  replace hx : TxC σ p0 x ∧ 0 ≤ p1.toInt ∧ p1.toInt < x.2 ∧ WdC σ p0 := hx
  obtain ⟨hx, hp0, hp1, hwd⟩ := hx
  have hx3 := hx.2.2.2.2
  have z0 := z0I
  change K n 0 [(0, .inr (.inr (some p0))), (1, .inl p1)] [] σ
  refine hB _ _ _ _ _ (fun m1 hm1 => ?_)
  dsimp only [ucgo, ucwp, ucsC, uqC, uoC, ctC, rfd, KX9_cutOne, KX9_cutOne_0, KX9_cutOne_13, KX9_cutOne_19, KX9_cutOne_26, KX9_cutOne_32, KX9_cutOne_38, KX9_cutOne_46, KX9_cutOne_51, lkC, s1C, s2C, dlC, kyC, Nat.beq, rcd, rno, Nat.reduceAdd, Nat.reduceBEq, Nat.reduceDiv, List.drop, List.take, List.reverse, List.reverseAux, Int.toNat, Option.toList, List.append, List.cons_append, List.nil_append, fI_qI, fR_qI, fL_qI, fI_qL, fR_qL, fL_qL]
  intro w2 τ2 o2 q2
  obtain ⟨r2, rfl, rfl⟩ := o2
  have b2 : r2.toInt = btY x p1.toInt := q2 x hx r2 rfl
  dsimp only [Option.toList, List.cons_append, List.nil_append, s1C, s2C, dlC, kyC, Nat.beq, lkC, rcd, rno]
  intro w3 τ3 o3 q3
  obtain ⟨r3, rfl, rfl, -, -⟩ := o3
  have d3 := ltrI (q3 () trivial r3 rfl)
  dsimp only [Option.toList, List.cons_append, List.nil_append, s1C, s2C, dlC, kyC, Nat.beq, lkC, rcd, rno]
  refine ⟨fun h4 => ?_, fun h4 => ?_⟩
  · have g4 := (eqI (x := r3) (y := 0) h4 : (r3 : Int32).toInt = (0 : Int32).toInt)
    refine hB _ _ _ _ _ (fun m5 hm5 => ?_)
    dsimp only [ucgo, ucwp, ucsC, uqC, uoC, ctC, rfd, KX9_cutOne, KX9_cutOne_0, KX9_cutOne_13, KX9_cutOne_19, KX9_cutOne_26, KX9_cutOne_32, KX9_cutOne_38, KX9_cutOne_46, KX9_cutOne_51, lkC, s1C, s2C, dlC, kyC, Nat.beq, rcd, rno, Nat.reduceAdd, Nat.reduceBEq, Nat.reduceDiv, List.drop, List.take, List.reverse, List.reverseAux, Int.toNat, Option.toList, List.append, List.cons_append, List.nil_append, fI_qI, fR_qI, fL_qI, fI_qL, fR_qL, fL_qL]
    intro w6 τ6 o6 q6
    obtain ⟨r6, rfl, rfl, -, -⟩ := o6
    have d6 := digI (q6 () trivial r6 rfl)
    dsimp only [Option.toList, List.cons_append, List.nil_append, s1C, s2C, dlC, kyC, Nat.beq, lkC, rcd, rno]
    refine ⟨fun h7 => ?_, fun h7 => ?_⟩
    · have g7 := (eqI (x := r6) (y := 0) h7 : (r6 : Int32).toInt = (0 : Int32).toInt)
      refine hB _ _ _ _ _ (fun m8 hm8 => ?_)
      dsimp only [ucgo, ucwp, ucsC, uqC, uoC, ctC, rfd, KX9_cutOne, KX9_cutOne_0, KX9_cutOne_13, KX9_cutOne_19, KX9_cutOne_26, KX9_cutOne_32, KX9_cutOne_38, KX9_cutOne_46, KX9_cutOne_51, lkC, s1C, s2C, dlC, kyC, Nat.beq, rcd, rno, Nat.reduceAdd, Nat.reduceBEq, Nat.reduceDiv, List.drop, List.take, List.reverse, List.reverseAux, Int.toNat, Option.toList, List.append, List.cons_append, List.nil_append, fI_qI, fR_qI, fL_qI, fI_qL, fR_qL, fL_qL]
      have c9 : (Int32.ofInt 39).toInt = 39 := by decide
      refine ⟨fun h10 => ?_, fun h10 => ?_⟩
      · have g10 := (neI (x := r2) (y := (Int32.ofInt 39)) h10 : ¬ (r2 : Int32).toInt = ((Int32.ofInt 39) : Int32).toInt)
        refine hB _ _ _ _ _ (fun m11 hm11 => ?_)
        dsimp only [ucgo, ucwp, ucsC, uqC, uoC, ctC, rfd, KX9_cutOne, KX9_cutOne_0, KX9_cutOne_13, KX9_cutOne_19, KX9_cutOne_26, KX9_cutOne_32, KX9_cutOne_38, KX9_cutOne_46, KX9_cutOne_51, lkC, s1C, s2C, dlC, kyC, Nat.beq, rcd, rno, Nat.reduceAdd, Nat.reduceBEq, Nat.reduceDiv, List.drop, List.take, List.reverse, List.reverseAux, Int.toNat, Option.toList, List.append, List.cons_append, List.nil_append, fI_qI, fR_qI, fL_qI, fI_qL, fR_qL, fL_qL]
        intro w12 τ12 o12 q12
        obtain ⟨r12, rfl, -⟩ := o12
        have u12 := q12 x ⟨hx, hp0, hp1⟩ r12 rfl
        dsimp only [Option.toList, List.cons_append, List.nil_append, s1C, s2C, dlC, kyC, Nat.beq, lkC, rcd, rno]
        refine hB _ _ _ _ _ (fun m13 hm13 => ?_)
        dsimp only [ucgo, ucwp, ucsC, uqC, uoC, ctC, rfd, KX9_cutOne, KX9_cutOne_0, KX9_cutOne_13, KX9_cutOne_19, KX9_cutOne_26, KX9_cutOne_32, KX9_cutOne_38, KX9_cutOne_46, KX9_cutOne_51, lkC, s1C, s2C, dlC, kyC, Nat.beq, rcd, rno, Nat.reduceAdd, Nat.reduceBEq, Nat.reduceDiv, List.drop, List.take, List.reverse, List.reverseAux, Int.toNat, Option.toList, List.append, List.cons_append, List.nil_append, fI_qI, fR_qI, fL_qI, fI_qL, fR_qL, fL_qL]
        intro r9 e9
        cases e9
        rw [on_s (lt0 (by omega)) (dg0 (by omega)) (by omega)]
        obtain ⟨y1, y2⟩ := u12
        have s1 := sg_all (x := x) (q := p1.toInt)
        rw [s1.1] at y1
        refine ⟨y1, fun q => ?_, ?_⟩
        · rcases y2 with y2 | y2
          · exact absurd q (by omega)
          · rw [s1.2 (by omega)] at y2; exact y2
        · rcases y2 with y2 | y2
          · exact Or.inl y2.2
          · exact Or.inr ⟨_, y2⟩
      · have g10 := (eqI (x := r2) (y := (Int32.ofInt 39)) h10 : (r2 : Int32).toInt = ((Int32.ofInt 39) : Int32).toInt)
        refine hB _ _ _ _ _ (fun m14 hm14 => ?_)
        dsimp only [ucgo, ucwp, ucsC, uqC, uoC, ctC, rfd, KX9_cutOne, KX9_cutOne_0, KX9_cutOne_13, KX9_cutOne_19, KX9_cutOne_26, KX9_cutOne_32, KX9_cutOne_38, KX9_cutOne_46, KX9_cutOne_51, lkC, s1C, s2C, dlC, kyC, Nat.beq, rcd, rno, Nat.reduceAdd, Nat.reduceBEq, Nat.reduceDiv, List.drop, List.take, List.reverse, List.reverseAux, Int.toNat, Option.toList, List.append, List.cons_append, List.nil_append, fI_qI, fR_qI, fL_qI, fI_qL, fR_qL, fL_qL]
        intro w15 τ15 o15 q15
        obtain ⟨r15, rfl, -⟩ := o15
        have u15 := q15 x ⟨hx, hp0, hp1⟩ r15 rfl
        dsimp only [Option.toList, List.cons_append, List.nil_append, s1C, s2C, dlC, kyC, Nat.beq, lkC, rcd, rno]
        refine hB _ _ _ _ _ (fun m16 hm16 => ?_)
        dsimp only [ucgo, ucwp, ucsC, uqC, uoC, ctC, rfd, KX9_cutOne, KX9_cutOne_0, KX9_cutOne_13, KX9_cutOne_19, KX9_cutOne_26, KX9_cutOne_32, KX9_cutOne_38, KX9_cutOne_46, KX9_cutOne_51, lkC, s1C, s2C, dlC, kyC, Nat.beq, rcd, rno, Nat.reduceAdd, Nat.reduceBEq, Nat.reduceDiv, List.drop, List.take, List.reverse, List.reverseAux, Int.toNat, Option.toList, List.append, List.cons_append, List.nil_append, fI_qI, fR_qI, fL_qI, fI_qL, fR_qL, fL_qL]
        intro r9 e9
        cases e9
        rw [on_c (lt0 (by omega)) (dg0 (by omega)) (by omega)]
        rcases u15 with ⟨y1, y2, y3⟩ | ⟨y1, y2, y3⟩
        · rw [if_pos y1]; exact ⟨y2, fun _ => y3, Or.inr ⟨_, y3⟩⟩
        · rw [if_neg y1]; exact ⟨y2, fun q => absurd q (by omega), Or.inl y3⟩
    · have g7 := (neI (x := r6) (y := 0) h7 : ¬ (r6 : Int32).toInt = (0 : Int32).toInt)
      refine hB _ _ _ _ _ (fun m17 hm17 => ?_)
      dsimp only [ucgo, ucwp, ucsC, uqC, uoC, ctC, rfd, KX9_cutOne, KX9_cutOne_0, KX9_cutOne_13, KX9_cutOne_19, KX9_cutOne_26, KX9_cutOne_32, KX9_cutOne_38, KX9_cutOne_46, KX9_cutOne_51, lkC, s1C, s2C, dlC, kyC, Nat.beq, rcd, rno, Nat.reduceAdd, Nat.reduceBEq, Nat.reduceDiv, List.drop, List.take, List.reverse, List.reverseAux, Int.toNat, Option.toList, List.append, List.cons_append, List.nil_append, fI_qI, fR_qI, fL_qI, fI_qL, fR_qL, fL_qL]
      intro w18 τ18 o18 q18
      obtain ⟨r18, rfl, -⟩ := o18
      have u18 := q18 x ⟨hx, hp0, hp1⟩ r18 rfl
      dsimp only [Option.toList, List.cons_append, List.nil_append, s1C, s2C, dlC, kyC, Nat.beq, lkC, rcd, rno]
      intro r9 e9
      cases e9
      rw [on_d (lt0 (by omega)) (dg1 (by omega))]
      rcases u18 with ⟨y1, y2, y3⟩ | ⟨y1, y4, y2, y3⟩ | ⟨y1, y4, y2, y3⟩
      · rw [if_pos y1]; exact ⟨y2, fun q => absurd q (by omega), Or.inl y3⟩
      · rw [if_neg y1, if_pos y4]; exact ⟨y2, fun _ => y3, Or.inr ⟨_, y3⟩⟩
      · rw [if_neg y1, if_neg y4]; exact ⟨y2, fun _ => y3, Or.inr ⟨_, y3⟩⟩
  · have g4 := (neI (x := r3) (y := 0) h4 : ¬ (r3 : Int32).toInt = (0 : Int32).toInt)
    refine hB _ _ _ _ _ (fun m19 hm19 => ?_)
    dsimp only [ucgo, ucwp, ucsC, uqC, uoC, ctC, rfd, KX9_cutOne, KX9_cutOne_0, KX9_cutOne_13, KX9_cutOne_19, KX9_cutOne_26, KX9_cutOne_32, KX9_cutOne_38, KX9_cutOne_46, KX9_cutOne_51, lkC, s1C, s2C, dlC, kyC, Nat.beq, rcd, rno, Nat.reduceAdd, Nat.reduceBEq, Nat.reduceDiv, List.drop, List.take, List.reverse, List.reverseAux, Int.toNat, Option.toList, List.append, List.cons_append, List.nil_append, fI_qI, fR_qI, fL_qI, fI_qL, fR_qL, fL_qL]
    intro w20 τ20 o20 q20
    obtain ⟨r20, rfl, -⟩ := o20
    have u20 := q20 x ⟨hx, hp0, hp1, hwd⟩ r20 rfl
    dsimp only [Option.toList, List.cons_append, List.nil_append, s1C, s2C, dlC, kyC, Nat.beq, lkC, rcd, rno]
    intro r9 e9
    cases e9
    rw [on_n (lt1 (by omega))]
    rcases u20 with ⟨y1, y2, y3⟩ | ⟨y1, y2, y3⟩
    · rw [if_pos y1]; exact ⟨y2, fun q => absurd q (by omega), Or.inl y3⟩
    · rw [if_neg y1]; exact ⟨y2, fun _ => y3, Or.inr ⟨_, y3⟩⟩
abbrev U_cutOne : CqC := fun As σ w τ => ∀ x, Pp_name x As σ → Qp_cutOne x As σ w τ
theorem n_cutOne (l : Launch) : CMetC l 13 191 P_X9_cutOne (fun As σ w τ => Q_X9_cutOne As σ w τ ∧ U_cutOne As σ w τ) := CMetC.of KX9_cutOne (uc2C [(189, P_X9_byteAt, Q_X9_byteAt), (192, P_X9_isLetter, Q_X9_isLetter), (193, P_X9_isDigit, Q_X9_isDigit), (197, P_X9_cutSign, Q_X9_cutSign), (196, P_X9_cutCharacter, Q_X9_cutCharacter), (195, P_X9_cutNumber, Q_X9_cutNumber), (194, P_X9_cutName, Q_X9_cutName)] [(189, U_byteAt), (192, U_isLetter), (193, U_isDigit), (197, U_cutSign), (196, U_cutCharacter), (195, U_cutNumber), (194, U_cutName)]) hX9_cutOne (by decide) (by decide) okX9_cutOne (cc1C (n_byteAt l) (by decide) (cc1C (n_isLetter l) (by decide) (cc1C (n_isDigit l) (by decide) (cc1C (n_cutSign l) (by decide) (cc1C (n_cutCharacter l) (by decide) (cc1C (n_cutNumber l) (by decide) (cc1C (n_cutName l) (by decide) cc0C))))))) lg_X9_cutOne (b_X9_cutOne.and p_cutOne)
