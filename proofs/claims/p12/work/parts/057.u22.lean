theorem ug302 (σ : CsC) (a : Nat) : gtC σ a 302 = .inr (.inr (fRC σ a 302)) := rfl
theorem ug304 (σ : CsC) (a : Nat) : gtC σ a 304 = .inr (.inr (fRC σ a 304)) := rfl
theorem ug305 (σ : CsC) (a : Nat) : gtC σ a 305 = .inl (fIC σ a 305) := rfl
/-- no field has changed, and no row of ints but where the token's code stands -/
def OnC (σ τ : CsC) (p0 : Nat) (v : Int) : Prop := fIC τ = fIC σ ∧ fRC τ = fRC σ ∧ ∀ c, fRC σ p0 302 = some c → (eIC τ c (fIC σ p0 305).toNatClampNeg).toInt = v ∧ ∀ a j, ¬ (a = c ∧ j = (fIC σ p0 305).toNatClampNeg) → eIC τ a j = eIC σ a j
def SaC (σ τ : CsC) : Prop := fIC τ = fIC σ ∧ fRC τ = fRC σ ∧ eIC τ = eIC σ
theorem SaC.rf {σ : CsC} : SaC σ σ := ⟨rfl, rfl, rfl⟩
theorem OnC.q {σ : CsC} {p0 c : Nat} {v : Int32} (hc : fRC σ p0 302 = some c) : OnC σ (qIC σ c (upd (eIC σ c) (fIC σ p0 305).toNatClampNeg v)) p0 v.toInt := by
  refine ⟨rfl, rfl, fun d hd => ?_⟩
  obtain rfl : c = d := Option.some.inj (hc.symm.trans hd)
  refine ⟨?_, fun a j h => ?_⟩
  · show (u1C σ.2.2.2.1 c (upd (eIC σ c) (fIC σ p0 305).toNatClampNeg v) c (fIC σ p0 305).toNatClampNeg).toInt = _
    rw [u1C_eq]; unfold upd; rw [if_pos rfl]
  · show u1C σ.2.2.2.1 c (upd (eIC σ c) (fIC σ p0 305).toNatClampNeg v) a j = _
    by_cases ha : a = c
    · subst ha
      rw [u1C_eq]
      have hj : ¬ j = (fIC σ p0 305).toNatClampNeg := fun q => h ⟨rfl, q⟩
      unfold upd; rw [if_neg hj]
    · rw [u1C_ne ha]; rfl
theorem OnC.l {σ τ : CsC} {p0 : Nat} {v : Int} (h : OnC σ τ p0 v) {d : Nat} {f : Nat → Int64} : OnC σ (qLC τ d f) p0 v := h
abbrev chrY (x : TxY) (i : Int) : Prop := 32 ≤ btY x (i + 1) ∧ btY x (i + 1) ≤ 126 ∧ ¬ btY x (i + 1) = 39 ∧ ¬ btY x (i + 1) = 92 ∧ btY x (i + 2) = 39
abbrev Qp_cutCharacter (x : TxY) : CqC := fun As σ w τ => match As with
  | [.inr (.inr (some p0)), .inl p1] => ∀ r, w = some (.inl r) → (chrY x p1.toInt ∧ r.toInt = 3 ∧ OnC σ τ p0 83) ∨ (¬ chrY x p1.toInt ∧ r.toInt = 0 ∧ SaC σ τ)
  | _ => True
abbrev Pp_cut (x : TxY) : CpC := fun As σ => match As with
  | [.inr (.inr (some p0)), .inl p1] => TxC σ p0 x ∧ 0 ≤ p1.toInt ∧ p1.toInt < x.2
  | _ => False
theorem p_cutCharacter (x : TxY) : PbC KX9_cutCharacter [(189, P_X9_byteAt, Q_X9_byteAt)] [(189, U_byteAt)] (fun As σ => P_X9_cutCharacter As σ ∧ Pp_cut x As σ) (Qp_cutCharacter x) := by
  rintro As σ ⟨⟨p0, p1, rfl, H0, h0⟩, hx⟩ K hB hW n
  replace hx : TxC σ p0 x ∧ 0 ≤ p1.toInt ∧ p1.toInt < x.2 := hx
  obtain ⟨hx, hp0, hp1⟩ := hx
  have hx3 := hx.2.2.2.2
  have z0 := z0I
  change K n 0 [(0, .inr (.inr (some p0))), (1, .inl p1)] [] σ
  refine hB _ _ _ _ _ (fun m1 hm1 => ?_)
  dsimp only [ucgo, ucwp, ucsC, uqC, uoC, ctC, rfd, KX9_cutCharacter, KX9_cutCharacter_0, KX9_cutCharacter_14, KX9_cutCharacter_20, KX9_cutCharacter_26, KX9_cutCharacter_32, KX9_cutCharacter_44, KX9_cutCharacter_46, lkC, s1C, s2C, dlC, kyC, Nat.beq, rcd, rno, Nat.reduceAdd, Nat.reduceBEq, Nat.reduceDiv, List.drop, List.take, List.reverse, List.reverseAux, Int.toNat, Option.toList, List.append, List.cons_append, List.nil_append, fI_qI, fR_qI, fL_qI, fI_qL, fR_qL, fL_qL, ug302, ug304, ug305]
  have c2 : (Int32.ofInt 1).toInt = 1 := by decide
  have a3 : (p1 + (Int32.ofInt 1)).toInt = p1.toInt + 1 := addC (by omega) (by omega) (by omega)
  intro w4 τ4 o4 q4
  obtain ⟨r4, rfl, rfl⟩ := o4
  have b4 : r4.toInt = btY x (p1.toInt + 1) := (q4 x hx r4 rfl).trans (by first | rfl | rw [show ((p1 + (Int32.ofInt 1)) : Int32).toInt = (p1.toInt + 1) from by omega])
  dsimp only [Option.toList, List.cons_append, List.nil_append, s1C, s2C, dlC, kyC, Nat.beq, lkC, rcd, rno]
  have c5 : (Int32.ofInt 32).toInt = 32 := by decide
  refine ⟨fun h6 => ?_, fun h6 => ?_⟩
  · have g6 := ltI (x := r4) (y := (Int32.ofInt 32)) h6
    refine hB _ _ _ _ _ (fun m7 hm7 => ?_)
    dsimp only [ucgo, ucwp, ucsC, uqC, uoC, ctC, rfd, KX9_cutCharacter, KX9_cutCharacter_0, KX9_cutCharacter_14, KX9_cutCharacter_20, KX9_cutCharacter_26, KX9_cutCharacter_32, KX9_cutCharacter_44, KX9_cutCharacter_46, lkC, s1C, s2C, dlC, kyC, Nat.beq, rcd, rno, Nat.reduceAdd, Nat.reduceBEq, Nat.reduceDiv, List.drop, List.take, List.reverse, List.reverseAux, Int.toNat, Option.toList, List.append, List.cons_append, List.nil_append, fI_qI, fR_qI, fL_qI, fI_qL, fR_qL, fL_qL, ug302, ug304, ug305]
    have c8 : (Int32.ofInt 0).toInt = 0 := by decide
    intro r9 e9
    cases e9
    exact Or.inr ⟨by unfold chrY; omega, rfl, SaC.rf⟩
  · have g6 := nltI (x := r4) (y := (Int32.ofInt 32)) h6
    refine hB _ _ _ _ _ (fun m9 hm9 => ?_)
    dsimp only [ucgo, ucwp, ucsC, uqC, uoC, ctC, rfd, KX9_cutCharacter, KX9_cutCharacter_0, KX9_cutCharacter_14, KX9_cutCharacter_20, KX9_cutCharacter_26, KX9_cutCharacter_32, KX9_cutCharacter_44, KX9_cutCharacter_46, lkC, s1C, s2C, dlC, kyC, Nat.beq, rcd, rno, Nat.reduceAdd, Nat.reduceBEq, Nat.reduceDiv, List.drop, List.take, List.reverse, List.reverseAux, Int.toNat, Option.toList, List.append, List.cons_append, List.nil_append, fI_qI, fR_qI, fL_qI, fI_qL, fR_qL, fL_qL, ug302, ug304, ug305]
    have c10 : (Int32.ofInt 126).toInt = 126 := by decide
    refine ⟨fun h11 => ?_, fun h11 => ?_⟩
    · have g11 := ltI (x := (Int32.ofInt 126)) (y := r4) h11
      refine hB _ _ _ _ _ (fun m12 hm12 => ?_)
      dsimp only [ucgo, ucwp, ucsC, uqC, uoC, ctC, rfd, KX9_cutCharacter, KX9_cutCharacter_0, KX9_cutCharacter_14, KX9_cutCharacter_20, KX9_cutCharacter_26, KX9_cutCharacter_32, KX9_cutCharacter_44, KX9_cutCharacter_46, lkC, s1C, s2C, dlC, kyC, Nat.beq, rcd, rno, Nat.reduceAdd, Nat.reduceBEq, Nat.reduceDiv, List.drop, List.take, List.reverse, List.reverseAux, Int.toNat, Option.toList, List.append, List.cons_append, List.nil_append, fI_qI, fR_qI, fL_qI, fI_qL, fR_qL, fL_qL, ug302, ug304, ug305]
      have c13 : (Int32.ofInt 0).toInt = 0 := by decide
      intro r9 e9
      cases e9
      exact Or.inr ⟨by unfold chrY; omega, rfl, SaC.rf⟩
    · have g11 := nltI (x := (Int32.ofInt 126)) (y := r4) h11
      refine hB _ _ _ _ _ (fun m14 hm14 => ?_)
      dsimp only [ucgo, ucwp, ucsC, uqC, uoC, ctC, rfd, KX9_cutCharacter, KX9_cutCharacter_0, KX9_cutCharacter_14, KX9_cutCharacter_20, KX9_cutCharacter_26, KX9_cutCharacter_32, KX9_cutCharacter_44, KX9_cutCharacter_46, lkC, s1C, s2C, dlC, kyC, Nat.beq, rcd, rno, Nat.reduceAdd, Nat.reduceBEq, Nat.reduceDiv, List.drop, List.take, List.reverse, List.reverseAux, Int.toNat, Option.toList, List.append, List.cons_append, List.nil_append, fI_qI, fR_qI, fL_qI, fI_qL, fR_qL, fL_qL, ug302, ug304, ug305]
      have c15 : (Int32.ofInt 39).toInt = 39 := by decide
      refine ⟨fun h16 => ?_, fun h16 => ?_⟩
      · have g16 := (eqI (x := r4) (y := (Int32.ofInt 39)) h16 : (r4 : Int32).toInt = ((Int32.ofInt 39) : Int32).toInt)
        refine hB _ _ _ _ _ (fun m17 hm17 => ?_)
        dsimp only [ucgo, ucwp, ucsC, uqC, uoC, ctC, rfd, KX9_cutCharacter, KX9_cutCharacter_0, KX9_cutCharacter_14, KX9_cutCharacter_20, KX9_cutCharacter_26, KX9_cutCharacter_32, KX9_cutCharacter_44, KX9_cutCharacter_46, lkC, s1C, s2C, dlC, kyC, Nat.beq, rcd, rno, Nat.reduceAdd, Nat.reduceBEq, Nat.reduceDiv, List.drop, List.take, List.reverse, List.reverseAux, Int.toNat, Option.toList, List.append, List.cons_append, List.nil_append, fI_qI, fR_qI, fL_qI, fI_qL, fR_qL, fL_qL, ug302, ug304, ug305]
        have c18 : (Int32.ofInt 0).toInt = 0 := by decide
        intro r9 e9
        cases e9
        exact Or.inr ⟨by unfold chrY; omega, rfl, SaC.rf⟩
      · have g16 := (neI (x := r4) (y := (Int32.ofInt 39)) h16 : ¬ (r4 : Int32).toInt = ((Int32.ofInt 39) : Int32).toInt)
        refine hB _ _ _ _ _ (fun m19 hm19 => ?_)
        dsimp only [ucgo, ucwp, ucsC, uqC, uoC, ctC, rfd, KX9_cutCharacter, KX9_cutCharacter_0, KX9_cutCharacter_14, KX9_cutCharacter_20, KX9_cutCharacter_26, KX9_cutCharacter_32, KX9_cutCharacter_44, KX9_cutCharacter_46, lkC, s1C, s2C, dlC, kyC, Nat.beq, rcd, rno, Nat.reduceAdd, Nat.reduceBEq, Nat.reduceDiv, List.drop, List.take, List.reverse, List.reverseAux, Int.toNat, Option.toList, List.append, List.cons_append, List.nil_append, fI_qI, fR_qI, fL_qI, fI_qL, fR_qL, fL_qL, ug302, ug304, ug305]
        have c20 : (Int32.ofInt 92).toInt = 92 := by decide
        refine ⟨fun h21 => ?_, fun h21 => ?_⟩
        · have g21 := (eqI (x := r4) (y := (Int32.ofInt 92)) h21 : (r4 : Int32).toInt = ((Int32.ofInt 92) : Int32).toInt)
          refine hB _ _ _ _ _ (fun m22 hm22 => ?_)
          dsimp only [ucgo, ucwp, ucsC, uqC, uoC, ctC, rfd, KX9_cutCharacter, KX9_cutCharacter_0, KX9_cutCharacter_14, KX9_cutCharacter_20, KX9_cutCharacter_26, KX9_cutCharacter_32, KX9_cutCharacter_44, KX9_cutCharacter_46, lkC, s1C, s2C, dlC, kyC, Nat.beq, rcd, rno, Nat.reduceAdd, Nat.reduceBEq, Nat.reduceDiv, List.drop, List.take, List.reverse, List.reverseAux, Int.toNat, Option.toList, List.append, List.cons_append, List.nil_append, fI_qI, fR_qI, fL_qI, fI_qL, fR_qL, fL_qL, ug302, ug304, ug305]
          have c23 : (Int32.ofInt 0).toInt = 0 := by decide
          intro r9 e9
          cases e9
          exact Or.inr ⟨by unfold chrY; omega, rfl, SaC.rf⟩
        · have g21 := (neI (x := r4) (y := (Int32.ofInt 92)) h21 : ¬ (r4 : Int32).toInt = ((Int32.ofInt 92) : Int32).toInt)
          refine hB _ _ _ _ _ (fun m24 hm24 => ?_)
          dsimp only [ucgo, ucwp, ucsC, uqC, uoC, ctC, rfd, KX9_cutCharacter, KX9_cutCharacter_0, KX9_cutCharacter_14, KX9_cutCharacter_20, KX9_cutCharacter_26, KX9_cutCharacter_32, KX9_cutCharacter_44, KX9_cutCharacter_46, lkC, s1C, s2C, dlC, kyC, Nat.beq, rcd, rno, Nat.reduceAdd, Nat.reduceBEq, Nat.reduceDiv, List.drop, List.take, List.reverse, List.reverseAux, Int.toNat, Option.toList, List.append, List.cons_append, List.nil_append, fI_qI, fR_qI, fL_qI, fI_qL, fR_qL, fL_qL, ug302, ug304, ug305]
          have c25 : (Int32.ofInt 2).toInt = 2 := by decide
          have a26 : (p1 + (Int32.ofInt 2)).toInt = p1.toInt + 2 := addC (by omega) (by omega) (by omega)
          intro w27 τ27 o27 q27
          obtain ⟨r27, rfl, rfl⟩ := o27
          have b27 : r27.toInt = btY x (p1.toInt + 2) := (q27 x hx r27 rfl).trans (by first | rfl | rw [show ((p1 + (Int32.ofInt 2)) : Int32).toInt = (p1.toInt + 2) from by omega])
          dsimp only [Option.toList, List.cons_append, List.nil_append, s1C, s2C, dlC, kyC, Nat.beq, lkC, rcd, rno]
          have c28 : (Int32.ofInt 39).toInt = 39 := by decide
          refine ⟨fun h29 => ?_, fun h29 => ?_⟩
          · have g29 := (eqI (x := r27) (y := (Int32.ofInt 39)) h29 : (r27 : Int32).toInt = ((Int32.ofInt 39) : Int32).toInt)
            refine hB _ _ _ _ _ (fun m30 hm30 => ?_)
            dsimp only [ucgo, ucwp, ucsC, uqC, uoC, ctC, rfd, KX9_cutCharacter, KX9_cutCharacter_0, KX9_cutCharacter_14, KX9_cutCharacter_20, KX9_cutCharacter_26, KX9_cutCharacter_32, KX9_cutCharacter_44, KX9_cutCharacter_46, lkC, s1C, s2C, dlC, kyC, Nat.beq, rcd, rno, Nat.reduceAdd, Nat.reduceBEq, Nat.reduceDiv, List.drop, List.take, List.reverse, List.reverseAux, Int.toNat, Option.toList, List.append, List.cons_append, List.nil_append, fI_qI, fR_qI, fL_qI, fI_qL, fR_qL, fL_qL, ug302, ug304, ug305]
            intro a31 e31 ob31
            cases e31
            intro a32 e32 ob32
            cases e32
            have c33 : (Int32.ofInt 83).toInt = 83 := by decide
            intro a34 e34 t34 v34
            intro a35 e35 ob35
            cases e35
            intro a36 e36 ob36
            cases e36
            intro a37 e37 t37 v37
            have c38 : (Int32.ofInt 3).toInt = 3 := by decide
            intro r9 e9
            cases e9
            exact Or.inl ⟨by unfold chrY; omega, rfl, (OnC.q e34).l⟩
          · have g29 := (neI (x := r27) (y := (Int32.ofInt 39)) h29 : ¬ (r27 : Int32).toInt = ((Int32.ofInt 39) : Int32).toInt)
            refine hB _ _ _ _ _ (fun m39 hm39 => ?_)
            dsimp only [ucgo, ucwp, ucsC, uqC, uoC, ctC, rfd, KX9_cutCharacter, KX9_cutCharacter_0, KX9_cutCharacter_14, KX9_cutCharacter_20, KX9_cutCharacter_26, KX9_cutCharacter_32, KX9_cutCharacter_44, KX9_cutCharacter_46, lkC, s1C, s2C, dlC, kyC, Nat.beq, rcd, rno, Nat.reduceAdd, Nat.reduceBEq, Nat.reduceDiv, List.drop, List.take, List.reverse, List.reverseAux, Int.toNat, Option.toList, List.append, List.cons_append, List.nil_append, fI_qI, fR_qI, fL_qI, fI_qL, fR_qL, fL_qL, ug302, ug304, ug305]
            have c40 : (Int32.ofInt 0).toInt = 0 := by decide
            intro r9 e9
            cases e9
            exact Or.inr ⟨by unfold chrY; omega, rfl, SaC.rf⟩
abbrev U_cutCharacter : CqC := fun As σ w τ => ∀ x, Pp_cut x As σ → Qp_cutCharacter x As σ w τ
theorem n_cutCharacter (l : Launch) : CMetC l 2 196 P_X9_cutCharacter (fun As σ w τ => Q_X9_cutCharacter As σ w τ ∧ U_cutCharacter As σ w τ) := CMetC.of KX9_cutCharacter (uc2C [(189, P_X9_byteAt, Q_X9_byteAt)] [(189, U_byteAt)]) hX9_cutCharacter (by decide) (by decide) okX9_cutCharacter (cc1C (n_byteAt l) (by decide) cc0C) lg_X9_cutCharacter (b_X9_cutCharacter.and p_cutCharacter)
