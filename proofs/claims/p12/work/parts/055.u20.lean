theorem fI_qI (σ : CsC) (a : Nat) (f : Nat → Int32) : fIC (qIC σ a f) = fIC σ := rfl
theorem fR_qI (σ : CsC) (a : Nat) (f : Nat → Int32) : fRC (qIC σ a f) = fRC σ := rfl
theorem fL_qI (σ : CsC) (a : Nat) (f : Nat → Int32) : fLC (qIC σ a f) = fLC σ := rfl
theorem fI_qL (σ : CsC) (a : Nat) (f : Nat → Int64) : fIC (qLC σ a f) = fIC σ := rfl
theorem fR_qL (σ : CsC) (a : Nat) (f : Nat → Int64) : fRC (qLC σ a f) = fRC σ := rfl
theorem fL_qL (σ : CsC) (a : Nat) (f : Nat → Int64) : fLC (qLC σ a f) = fLC σ := rfl
theorem eqI {x y : Int32} (h : x = y) : x.toInt = y.toInt := congrArg _ h
theorem neI {x y : Int32} (h : ¬ x = y) : ¬ x.toInt = y.toInt := fun q => h (Int32.toInt_inj.mp q)
theorem ltI {x y : Int32} (h : x < y) : x.toInt < y.toInt := Int32.lt_iff_toInt_lt.mp h
theorem nltI {x y : Int32} (h : ¬ x < y) : y.toInt ≤ x.toInt := Int.not_lt.mp (fun q => h (Int32.lt_iff_toInt_lt.mpr q))
theorem leI {x y : Int32} (h : x ≤ y) : x.toInt ≤ y.toInt := Int32.le_iff_toInt_le.mp h
theorem nleI {x y : Int32} (h : ¬ x ≤ y) : y.toInt < x.toInt := Int.not_le.mp (fun q => h (Int32.le_iff_toInt_le.mpr q))
theorem ug308 (σ : CsC) (a : Nat) : gtC σ a 308 = .inl (fIC σ a 308) := rfl
theorem ug307 (σ : CsC) (a : Nat) : gtC σ a 307 = .inr (.inr (fRC σ a 307)) := rfl
theorem z0I : (0 : Int32).toInt = 0 := rfl
/-- the bytes of a row that Tokens holds, the length -/
def TxC (σ : CsC) (t : Nat) (x : TxY) : Prop := (fIC σ t 308).toInt = x.2 ∧ (∀ a, fRC σ t 307 = some a → ∀ j : Nat, (j : Int) < x.2 → (eIC σ a j &&& 255).toInt = x.1 j) ∧ okY x
abbrev Pp_byteAt (x : TxY) : CpC := fun As σ => match As with
  | [.inr (.inr (some p0)), .inl p1] => TxC σ p0 x
  | _ => False
abbrev Qp_byteAt (x : TxY) : CqC := fun As σ w τ => match As with
  | [.inr (.inr (some p0)), .inl p1] => ∀ r, w = some (.inl r) → r.toInt = btY x p1.toInt
  | _ => True
abbrev U_byteAt : CqC := fun As σ w τ => ∀ x, Pp_byteAt x As σ → Qp_byteAt x As σ w τ
abbrev R_byteAt : CqC := fun As σ w τ => Q_X9_byteAt As σ w τ ∧ U_byteAt As σ w τ
theorem p_byteAt (x : TxY) : PbC KX9_byteAt [] [] (fun As σ => P_X9_byteAt As σ ∧ Pp_byteAt x As σ) (Qp_byteAt x) := by
  rintro As σ ⟨⟨p0, p1, rfl, H0, h0⟩, hx⟩ K hB hW n
  replace hx : TxC σ p0 x := hx
  change K n 0 [(0, .inr (.inr (some p0))), (1, .inl p1)] [] σ
  have t25 : ∀ n ls, (¬ (0 ≤ p1.toInt ∧ p1.toInt < (fIC σ p0 308).toInt)) → K n 25 ls [] σ := by
    intro n ls hh
    refine hB _ _ _ _ _ (fun m2 hm2 => ?_)
    dsimp only [ucgo, ucwp, ucsC, uqC, uoC, ctC, rfd, KX9_byteAt, KX9_byteAt_0, KX9_byteAt_4, KX9_byteAt_12, KX9_byteAt_25, KX9_byteAt_26, lkC, s1C, s2C, dlC, kyC, Nat.beq, rcd, rno, Nat.reduceAdd, Nat.reduceBEq, Nat.reduceDiv, List.drop, List.take, List.reverse, List.reverseAux, Int.toNat, Option.toList, List.append, List.cons_append, List.nil_append, fI_qI, fR_qI, fL_qI, fI_qL, fR_qL, fL_qL, ug307, ug308]
    refine hB _ _ _ _ _ (fun m3 hm3 => ?_)
    dsimp only [ucgo, ucwp, ucsC, uqC, uoC, ctC, rfd, KX9_byteAt, KX9_byteAt_0, KX9_byteAt_4, KX9_byteAt_12, KX9_byteAt_25, KX9_byteAt_26, lkC, s1C, s2C, dlC, kyC, Nat.beq, rcd, rno, Nat.reduceAdd, Nat.reduceBEq, Nat.reduceDiv, List.drop, List.take, List.reverse, List.reverseAux, Int.toNat, Option.toList, List.append, List.cons_append, List.nil_append, fI_qI, fR_qI, fL_qI, fI_qL, fR_qL, fL_qL, ug307, ug308]
    intro r e
    cases e
    unfold btY
    rw [if_neg (by rw [← hx.1]; exact hh)]
    rfl
  refine hB _ _ _ _ _ (fun m1 hm1 => ?_)
  dsimp only [ucgo, ucwp, ucsC, uqC, uoC, ctC, rfd, KX9_byteAt, KX9_byteAt_0, KX9_byteAt_4, KX9_byteAt_12, KX9_byteAt_25, KX9_byteAt_26, lkC, s1C, s2C, dlC, kyC, Nat.beq, rcd, rno, Nat.reduceAdd, Nat.reduceBEq, Nat.reduceDiv, List.drop, List.take, List.reverse, List.reverseAux, Int.toNat, Option.toList, List.append, List.cons_append, List.nil_append, fI_qI, fR_qI, fL_qI, fI_qL, fR_qL, fL_qL, ug307, ug308]
  refine ⟨fun h1 => ?_, fun h1 => ?_⟩
  · exact t25 _ _ (by have : p1.toInt < 0 := ltI h1; omega)
  · have i0 : 0 ≤ p1.toInt := nltI h1
    refine hB _ _ _ _ _ (fun m2 hm2 => ?_)
    dsimp only [ucgo, ucwp, ucsC, uqC, uoC, ctC, rfd, KX9_byteAt, KX9_byteAt_0, KX9_byteAt_4, KX9_byteAt_12, KX9_byteAt_25, KX9_byteAt_26, lkC, s1C, s2C, dlC, kyC, Nat.beq, rcd, rno, Nat.reduceAdd, Nat.reduceBEq, Nat.reduceDiv, List.drop, List.take, List.reverse, List.reverseAux, Int.toNat, Option.toList, List.append, List.cons_append, List.nil_append, fI_qI, fR_qI, fL_qI, fI_qL, fR_qL, fL_qL, ug307, ug308]
    intro a e ob
    cases e
    refine ⟨fun h2 => ?_, fun h2 => ?_⟩
    · exact t25 _ _ (by have := leI h2; omega)
    · have i1 : p1.toInt < (fIC σ p0 308).toInt := nleI h2
      refine hB _ _ _ _ _ (fun m3 hm3 => ?_)
      dsimp only [ucgo, ucwp, ucsC, uqC, uoC, ctC, rfd, KX9_byteAt, KX9_byteAt_0, KX9_byteAt_4, KX9_byteAt_12, KX9_byteAt_25, KX9_byteAt_26, lkC, s1C, s2C, dlC, kyC, Nat.beq, rcd, rno, Nat.reduceAdd, Nat.reduceBEq, Nat.reduceDiv, List.drop, List.take, List.reverse, List.reverseAux, Int.toNat, Option.toList, List.append, List.cons_append, List.nil_append, fI_qI, fR_qI, fL_qI, fI_qL, fR_qL, fL_qL, ug307, ug308]
      intro a e ob
      cases e
      intro a e rw_ hv
      refine hB _ _ _ _ _ (fun m4 hm4 => ?_)
      dsimp only [ucgo, ucwp, ucsC, uqC, uoC, ctC, rfd, KX9_byteAt, KX9_byteAt_0, KX9_byteAt_4, KX9_byteAt_12, KX9_byteAt_25, KX9_byteAt_26, lkC, s1C, s2C, dlC, kyC, Nat.beq, rcd, rno, Nat.reduceAdd, Nat.reduceBEq, Nat.reduceDiv, List.drop, List.take, List.reverse, List.reverseAux, Int.toNat, Option.toList, List.append, List.cons_append, List.nil_append, fI_qI, fR_qI, fL_qI, fI_qL, fR_qL, fL_qL, ug307, ug308]
      intro r e5
      cases e5
      rw [bt_in i0 (by rw [← hx.1]; exact i1)]
      exact hx.2.1 a e p1.toNatClampNeg (by rw [← hx.1]; show ((p1.toInt.toNat : Nat) : Int) < _; omega)
theorem n_byteAt (l : Launch) : CMetC l 1 189 P_X9_byteAt R_byteAt := CMetC.of KX9_byteAt (uc2C [] []) hX9_byteAt (by decide) (by decide) okX9_byteAt cc0C lg_X9_byteAt (b_X9_byteAt.and p_byteAt)
abbrev Qp_behindBlanks (x : TxY) : CqC := fun As σ w τ => match As with
  | [.inr (.inr (some p0)), .inl p1] => ∀ r, w = some (.inl r) → r.toInt = skY x p1.toInt
  | _ => True
abbrev R_behindBlanks : CqC := fun As σ w τ => Q_X9_behindBlanks As σ w τ ∧ ∀ x, Pp_byteAt x As σ → Qp_behindBlanks x As σ w τ
theorem p_behindBlanks (x : TxY) : PbC KX9_behindBlanks [(189, P_X9_byteAt, Q_X9_byteAt)] [(189, U_byteAt)] (fun As σ => P_X9_behindBlanks As σ ∧ Pp_byteAt x As σ) (Qp_behindBlanks x) := by
  rintro As σ ⟨⟨p0, p1, rfl, H0, h0, hp1⟩, hx⟩ K hB hW n
  replace hx : TxC σ p0 x := hx
  have hx1 := hx.1
  have hx3 := hx.2.2.2.2
  have z0 := z0I
  change K n 0 [(0, .inr (.inr (some p0))), (1, .inl p1)] [] σ
  have L4 : ∀ (n : Nat) (i r : Int32), 0 ≤ i.toInt → (r.toInt = 0 ∨ r.toInt = 1) → bbY x (x.2 - i.toInt).toNat i.toInt r.toInt = skY x p1.toInt → K n 4 [(0, .inr (.inr (some p0))), (2, .inl i), (3, .inl r)] [] σ := by
    intro n
    induction n using Nat.strongRecOn with
    | _ n ih =>
      intro i r hi hr hb
      refine hB _ _ _ _ _ (fun m1 hm1 => ?_)
      dsimp only [ucgo, ucwp, ucsC, uqC, uoC, ctC, rfd, KX9_behindBlanks, KX9_behindBlanks_0, KX9_behindBlanks_4, KX9_behindBlanks_12, KX9_behindBlanks_26, KX9_behindBlanks_31, KX9_behindBlanks_35, KX9_behindBlanks_42, KX9_behindBlanks_54, KX9_behindBlanks_59, KX9_behindBlanks_63, KX9_behindBlanks_70, KX9_behindBlanks_77, KX9_behindBlanks_84, KX9_behindBlanks_86, KX9_behindBlanks_92, lkC, s1C, s2C, dlC, kyC, Nat.beq, rcd, rno, Nat.reduceAdd, Nat.reduceBEq, Nat.reduceDiv, List.drop, List.take, List.reverse, List.reverseAux, Int.toNat, Option.toList, List.append, List.cons_append, List.nil_append, fI_qI, fR_qI, fL_qI, fI_qL, fR_qL, fL_qL, ug308]
      intro a2 e2 ob2
      cases e2
      refine ⟨fun h3 => ?_, fun h3 => ?_⟩
      · have g3 := leI (x := (fIC σ p0 308)) (y := i) h3
        refine hB _ _ _ _ _ (fun m4 hm4 => ?_)
        dsimp only [ucgo, ucwp, ucsC, uqC, uoC, ctC, rfd, KX9_behindBlanks, KX9_behindBlanks_0, KX9_behindBlanks_4, KX9_behindBlanks_12, KX9_behindBlanks_26, KX9_behindBlanks_31, KX9_behindBlanks_35, KX9_behindBlanks_42, KX9_behindBlanks_54, KX9_behindBlanks_59, KX9_behindBlanks_63, KX9_behindBlanks_70, KX9_behindBlanks_77, KX9_behindBlanks_84, KX9_behindBlanks_86, KX9_behindBlanks_92, lkC, s1C, s2C, dlC, kyC, Nat.beq, rcd, rno, Nat.reduceAdd, Nat.reduceBEq, Nat.reduceDiv, List.drop, List.take, List.reverse, List.reverseAux, Int.toNat, Option.toList, List.append, List.cons_append, List.nil_append, fI_qI, fR_qI, fL_qI, fI_qL, fR_qL, fL_qL, ug308]
        intro a5 e5 ob5
        cases e5
        intro r9 e9
        cases e9
        rw [← hb, fu_z (x := x) (i := i.toInt) (by omega)]
        exact hx1
      · have g3 := nleI (x := (fIC σ p0 308)) (y := i) h3
        refine hB _ _ _ _ _ (fun m6 hm6 => ?_)
        dsimp only [ucgo, ucwp, ucsC, uqC, uoC, ctC, rfd, KX9_behindBlanks, KX9_behindBlanks_0, KX9_behindBlanks_4, KX9_behindBlanks_12, KX9_behindBlanks_26, KX9_behindBlanks_31, KX9_behindBlanks_35, KX9_behindBlanks_42, KX9_behindBlanks_54, KX9_behindBlanks_59, KX9_behindBlanks_63, KX9_behindBlanks_70, KX9_behindBlanks_77, KX9_behindBlanks_84, KX9_behindBlanks_86, KX9_behindBlanks_92, lkC, s1C, s2C, dlC, kyC, Nat.beq, rcd, rno, Nat.reduceAdd, Nat.reduceBEq, Nat.reduceDiv, List.drop, List.take, List.reverse, List.reverseAux, Int.toNat, Option.toList, List.append, List.cons_append, List.nil_append, fI_qI, fR_qI, fL_qI, fI_qL, fR_qL, fL_qL, ug308]
        intro w7 τ7 o7 q7
        obtain ⟨r7, rfl, rfl⟩ := o7
        have b7 : r7.toInt = btY x i.toInt := (q7 x hx r7 rfl).trans (by first | rfl | rw [show (i : Int32).toInt = i.toInt from by omega])
        dsimp only [Option.toList, List.cons_append, List.nil_append, s1C, s2C, dlC, kyC, Nat.beq, lkC, rcd, rno]
        have c8 : (Int32.ofInt 10).toInt = 10 := by decide
        refine ⟨fun h9 => ?_, fun h9 => ?_⟩
        · have g9 := (neI (x := r7) (y := (Int32.ofInt 10)) h9 : ¬ (r7 : Int32).toInt = ((Int32.ofInt 10) : Int32).toInt)
          refine hB _ _ _ _ _ (fun m10 hm10 => ?_)
          dsimp only [ucgo, ucwp, ucsC, uqC, uoC, ctC, rfd, KX9_behindBlanks, KX9_behindBlanks_0, KX9_behindBlanks_4, KX9_behindBlanks_12, KX9_behindBlanks_26, KX9_behindBlanks_31, KX9_behindBlanks_35, KX9_behindBlanks_42, KX9_behindBlanks_54, KX9_behindBlanks_59, KX9_behindBlanks_63, KX9_behindBlanks_70, KX9_behindBlanks_77, KX9_behindBlanks_84, KX9_behindBlanks_86, KX9_behindBlanks_92, lkC, s1C, s2C, dlC, kyC, Nat.beq, rcd, rno, Nat.reduceAdd, Nat.reduceBEq, Nat.reduceDiv, List.drop, List.take, List.reverse, List.reverseAux, Int.toNat, Option.toList, List.append, List.cons_append, List.nil_append, fI_qI, fR_qI, fL_qI, fI_qL, fR_qL, fL_qL, ug308]
          refine ⟨fun h11 => ?_, fun h11 => ?_⟩
          · have g11 := (neI (x := r) (y := 0) h11 : ¬ (r : Int32).toInt = (0 : Int32).toInt)
            refine hB _ _ _ _ _ (fun m12 hm12 => ?_)
            dsimp only [ucgo, ucwp, ucsC, uqC, uoC, ctC, rfd, KX9_behindBlanks, KX9_behindBlanks_0, KX9_behindBlanks_4, KX9_behindBlanks_12, KX9_behindBlanks_26, KX9_behindBlanks_31, KX9_behindBlanks_35, KX9_behindBlanks_42, KX9_behindBlanks_54, KX9_behindBlanks_59, KX9_behindBlanks_63, KX9_behindBlanks_70, KX9_behindBlanks_77, KX9_behindBlanks_84, KX9_behindBlanks_86, KX9_behindBlanks_92, lkC, s1C, s2C, dlC, kyC, Nat.beq, rcd, rno, Nat.reduceAdd, Nat.reduceBEq, Nat.reduceDiv, List.drop, List.take, List.reverse, List.reverseAux, Int.toNat, Option.toList, List.append, List.cons_append, List.nil_append, fI_qI, fR_qI, fL_qI, fI_qL, fR_qL, fL_qL, ug308]
            refine ⟨fun h13 => ?_, fun h13 => ?_⟩
            · have g13 := (neI (x := r) (y := 0) h13 : ¬ (r : Int32).toInt = (0 : Int32).toInt)
              refine hB _ _ _ _ _ (fun m14 hm14 => ?_)
              dsimp only [ucgo, ucwp, ucsC, uqC, uoC, ctC, rfd, KX9_behindBlanks, KX9_behindBlanks_0, KX9_behindBlanks_4, KX9_behindBlanks_12, KX9_behindBlanks_26, KX9_behindBlanks_31, KX9_behindBlanks_35, KX9_behindBlanks_42, KX9_behindBlanks_54, KX9_behindBlanks_59, KX9_behindBlanks_63, KX9_behindBlanks_70, KX9_behindBlanks_77, KX9_behindBlanks_84, KX9_behindBlanks_86, KX9_behindBlanks_92, lkC, s1C, s2C, dlC, kyC, Nat.beq, rcd, rno, Nat.reduceAdd, Nat.reduceBEq, Nat.reduceDiv, List.drop, List.take, List.reverse, List.reverseAux, Int.toNat, Option.toList, List.append, List.cons_append, List.nil_append, fI_qI, fR_qI, fL_qI, fI_qL, fR_qL, fL_qL, ug308]
              have c15 : (Int32.ofInt 1).toInt = 1 := by decide
              have a16 : (i + (Int32.ofInt 1)).toInt = i.toInt + 1 := addC (by omega) (by omega) (by omega)
              have e1 : ((i + (Int32.ofInt 1)) : Int32).toInt = (i.toInt + 1) := by omega
              rw [fu_s (x := x) (i := i.toInt) (by omega), bbY] at hb
              refine hW _ _ _ _ _ _ (List.forall_mem_cons.2 ⟨List.Mem.tail _ (List.Mem.tail _ (List.Mem.head _)), List.forall_mem_cons.2 ⟨List.Mem.head _, List.forall_mem_cons.2 ⟨List.Mem.tail _ (List.Mem.tail _ (List.Mem.tail _ (List.Mem.head _))), fun _ h => absurd h List.not_mem_nil⟩⟩⟩) (ih _ (by omega) (i + (Int32.ofInt 1)) r (by omega) (by omega) ?_)
              rw [e1]
              repeat' (split at hb)
              all_goals first | exact hb | (exfalso; omega)
            · have g13 := (eqI (x := r) (y := 0) h13 : (r : Int32).toInt = (0 : Int32).toInt)
              refine hB _ _ _ _ _ (fun m17 hm17 => ?_)
              dsimp only [ucgo, ucwp, ucsC, uqC, uoC, ctC, rfd, KX9_behindBlanks, KX9_behindBlanks_0, KX9_behindBlanks_4, KX9_behindBlanks_12, KX9_behindBlanks_26, KX9_behindBlanks_31, KX9_behindBlanks_35, KX9_behindBlanks_42, KX9_behindBlanks_54, KX9_behindBlanks_59, KX9_behindBlanks_63, KX9_behindBlanks_70, KX9_behindBlanks_77, KX9_behindBlanks_84, KX9_behindBlanks_86, KX9_behindBlanks_92, lkC, s1C, s2C, dlC, kyC, Nat.beq, rcd, rno, Nat.reduceAdd, Nat.reduceBEq, Nat.reduceDiv, List.drop, List.take, List.reverse, List.reverseAux, Int.toNat, Option.toList, List.append, List.cons_append, List.nil_append, fI_qI, fR_qI, fL_qI, fI_qL, fR_qL, fL_qL, ug308]
              have c18 : (Int32.ofInt 32).toInt = 32 := by decide
              refine ⟨fun h19 => ?_, fun h19 => ?_⟩
              · have g19 := (eqI (x := r7) (y := (Int32.ofInt 32)) h19 : (r7 : Int32).toInt = ((Int32.ofInt 32) : Int32).toInt)
                refine hB _ _ _ _ _ (fun m20 hm20 => ?_)
                dsimp only [ucgo, ucwp, ucsC, uqC, uoC, ctC, rfd, KX9_behindBlanks, KX9_behindBlanks_0, KX9_behindBlanks_4, KX9_behindBlanks_12, KX9_behindBlanks_26, KX9_behindBlanks_31, KX9_behindBlanks_35, KX9_behindBlanks_42, KX9_behindBlanks_54, KX9_behindBlanks_59, KX9_behindBlanks_63, KX9_behindBlanks_70, KX9_behindBlanks_77, KX9_behindBlanks_84, KX9_behindBlanks_86, KX9_behindBlanks_92, lkC, s1C, s2C, dlC, kyC, Nat.beq, rcd, rno, Nat.reduceAdd, Nat.reduceBEq, Nat.reduceDiv, List.drop, List.take, List.reverse, List.reverseAux, Int.toNat, Option.toList, List.append, List.cons_append, List.nil_append, fI_qI, fR_qI, fL_qI, fI_qL, fR_qL, fL_qL, ug308]
                have c21 : (Int32.ofInt 1).toInt = 1 := by decide
                have a22 : (i + (Int32.ofInt 1)).toInt = i.toInt + 1 := addC (by omega) (by omega) (by omega)
                have e1 : ((i + (Int32.ofInt 1)) : Int32).toInt = (i.toInt + 1) := by omega
                rw [fu_s (x := x) (i := i.toInt) (by omega), bbY] at hb
                refine hW _ _ _ _ _ _ (List.forall_mem_cons.2 ⟨List.Mem.tail _ (List.Mem.tail _ (List.Mem.head _)), List.forall_mem_cons.2 ⟨List.Mem.head _, List.forall_mem_cons.2 ⟨List.Mem.tail _ (List.Mem.tail _ (List.Mem.tail _ (List.Mem.head _))), fun _ h => absurd h List.not_mem_nil⟩⟩⟩) (ih _ (by omega) (i + (Int32.ofInt 1)) r (by omega) (by omega) ?_)
                rw [e1]
                repeat' (split at hb)
                all_goals first | exact hb | (exfalso; omega)
              · have g19 := (neI (x := r7) (y := (Int32.ofInt 32)) h19 : ¬ (r7 : Int32).toInt = ((Int32.ofInt 32) : Int32).toInt)
                refine hB _ _ _ _ _ (fun m23 hm23 => ?_)
                dsimp only [ucgo, ucwp, ucsC, uqC, uoC, ctC, rfd, KX9_behindBlanks, KX9_behindBlanks_0, KX9_behindBlanks_4, KX9_behindBlanks_12, KX9_behindBlanks_26, KX9_behindBlanks_31, KX9_behindBlanks_35, KX9_behindBlanks_42, KX9_behindBlanks_54, KX9_behindBlanks_59, KX9_behindBlanks_63, KX9_behindBlanks_70, KX9_behindBlanks_77, KX9_behindBlanks_84, KX9_behindBlanks_86, KX9_behindBlanks_92, lkC, s1C, s2C, dlC, kyC, Nat.beq, rcd, rno, Nat.reduceAdd, Nat.reduceBEq, Nat.reduceDiv, List.drop, List.take, List.reverse, List.reverseAux, Int.toNat, Option.toList, List.append, List.cons_append, List.nil_append, fI_qI, fR_qI, fL_qI, fI_qL, fR_qL, fL_qL, ug308]
                have c24 : (Int32.ofInt 9).toInt = 9 := by decide
                refine ⟨fun h25 => ?_, fun h25 => ?_⟩
                · have g25 := (eqI (x := r7) (y := (Int32.ofInt 9)) h25 : (r7 : Int32).toInt = ((Int32.ofInt 9) : Int32).toInt)
                  refine hB _ _ _ _ _ (fun m26 hm26 => ?_)
                  dsimp only [ucgo, ucwp, ucsC, uqC, uoC, ctC, rfd, KX9_behindBlanks, KX9_behindBlanks_0, KX9_behindBlanks_4, KX9_behindBlanks_12, KX9_behindBlanks_26, KX9_behindBlanks_31, KX9_behindBlanks_35, KX9_behindBlanks_42, KX9_behindBlanks_54, KX9_behindBlanks_59, KX9_behindBlanks_63, KX9_behindBlanks_70, KX9_behindBlanks_77, KX9_behindBlanks_84, KX9_behindBlanks_86, KX9_behindBlanks_92, lkC, s1C, s2C, dlC, kyC, Nat.beq, rcd, rno, Nat.reduceAdd, Nat.reduceBEq, Nat.reduceDiv, List.drop, List.take, List.reverse, List.reverseAux, Int.toNat, Option.toList, List.append, List.cons_append, List.nil_append, fI_qI, fR_qI, fL_qI, fI_qL, fR_qL, fL_qL, ug308]
                  have c27 : (Int32.ofInt 1).toInt = 1 := by decide
                  have a28 : (i + (Int32.ofInt 1)).toInt = i.toInt + 1 := addC (by omega) (by omega) (by omega)
                  have e1 : ((i + (Int32.ofInt 1)) : Int32).toInt = (i.toInt + 1) := by omega
                  rw [fu_s (x := x) (i := i.toInt) (by omega), bbY] at hb
                  refine hW _ _ _ _ _ _ (List.forall_mem_cons.2 ⟨List.Mem.tail _ (List.Mem.tail _ (List.Mem.head _)), List.forall_mem_cons.2 ⟨List.Mem.head _, List.forall_mem_cons.2 ⟨List.Mem.tail _ (List.Mem.tail _ (List.Mem.tail _ (List.Mem.head _))), fun _ h => absurd h List.not_mem_nil⟩⟩⟩) (ih _ (by omega) (i + (Int32.ofInt 1)) r (by omega) (by omega) ?_)
                  rw [e1]
                  repeat' (split at hb)
                  all_goals first | exact hb | (exfalso; omega)
                · have g25 := (neI (x := r7) (y := (Int32.ofInt 9)) h25 : ¬ (r7 : Int32).toInt = ((Int32.ofInt 9) : Int32).toInt)
                  refine hB _ _ _ _ _ (fun m29 hm29 => ?_)
                  dsimp only [ucgo, ucwp, ucsC, uqC, uoC, ctC, rfd, KX9_behindBlanks, KX9_behindBlanks_0, KX9_behindBlanks_4, KX9_behindBlanks_12, KX9_behindBlanks_26, KX9_behindBlanks_31, KX9_behindBlanks_35, KX9_behindBlanks_42, KX9_behindBlanks_54, KX9_behindBlanks_59, KX9_behindBlanks_63, KX9_behindBlanks_70, KX9_behindBlanks_77, KX9_behindBlanks_84, KX9_behindBlanks_86, KX9_behindBlanks_92, lkC, s1C, s2C, dlC, kyC, Nat.beq, rcd, rno, Nat.reduceAdd, Nat.reduceBEq, Nat.reduceDiv, List.drop, List.take, List.reverse, List.reverseAux, Int.toNat, Option.toList, List.append, List.cons_append, List.nil_append, fI_qI, fR_qI, fL_qI, fI_qL, fR_qL, fL_qL, ug308]
                  have c30 : (Int32.ofInt 13).toInt = 13 := by decide
                  refine ⟨fun h31 => ?_, fun h31 => ?_⟩
                  · have g31 := (eqI (x := r7) (y := (Int32.ofInt 13)) h31 : (r7 : Int32).toInt = ((Int32.ofInt 13) : Int32).toInt)
                    refine hB _ _ _ _ _ (fun m32 hm32 => ?_)
                    dsimp only [ucgo, ucwp, ucsC, uqC, uoC, ctC, rfd, KX9_behindBlanks, KX9_behindBlanks_0, KX9_behindBlanks_4, KX9_behindBlanks_12, KX9_behindBlanks_26, KX9_behindBlanks_31, KX9_behindBlanks_35, KX9_behindBlanks_42, KX9_behindBlanks_54, KX9_behindBlanks_59, KX9_behindBlanks_63, KX9_behindBlanks_70, KX9_behindBlanks_77, KX9_behindBlanks_84, KX9_behindBlanks_86, KX9_behindBlanks_92, lkC, s1C, s2C, dlC, kyC, Nat.beq, rcd, rno, Nat.reduceAdd, Nat.reduceBEq, Nat.reduceDiv, List.drop, List.take, List.reverse, List.reverseAux, Int.toNat, Option.toList, List.append, List.cons_append, List.nil_append, fI_qI, fR_qI, fL_qI, fI_qL, fR_qL, fL_qL, ug308]
                    have c33 : (Int32.ofInt 1).toInt = 1 := by decide
                    have a34 : (i + (Int32.ofInt 1)).toInt = i.toInt + 1 := addC (by omega) (by omega) (by omega)
                    have e1 : ((i + (Int32.ofInt 1)) : Int32).toInt = (i.toInt + 1) := by omega
                    rw [fu_s (x := x) (i := i.toInt) (by omega), bbY] at hb
                    refine hW _ _ _ _ _ _ (List.forall_mem_cons.2 ⟨List.Mem.tail _ (List.Mem.tail _ (List.Mem.head _)), List.forall_mem_cons.2 ⟨List.Mem.head _, List.forall_mem_cons.2 ⟨List.Mem.tail _ (List.Mem.tail _ (List.Mem.tail _ (List.Mem.head _))), fun _ h => absurd h List.not_mem_nil⟩⟩⟩) (ih _ (by omega) (i + (Int32.ofInt 1)) r (by omega) (by omega) ?_)
                    rw [e1]
                    repeat' (split at hb)
                    all_goals first | exact hb | (exfalso; omega)
                  · have g31 := (neI (x := r7) (y := (Int32.ofInt 13)) h31 : ¬ (r7 : Int32).toInt = ((Int32.ofInt 13) : Int32).toInt)
                    refine hB _ _ _ _ _ (fun m35 hm35 => ?_)
                    dsimp only [ucgo, ucwp, ucsC, uqC, uoC, ctC, rfd, KX9_behindBlanks, KX9_behindBlanks_0, KX9_behindBlanks_4, KX9_behindBlanks_12, KX9_behindBlanks_26, KX9_behindBlanks_31, KX9_behindBlanks_35, KX9_behindBlanks_42, KX9_behindBlanks_54, KX9_behindBlanks_59, KX9_behindBlanks_63, KX9_behindBlanks_70, KX9_behindBlanks_77, KX9_behindBlanks_84, KX9_behindBlanks_86, KX9_behindBlanks_92, lkC, s1C, s2C, dlC, kyC, Nat.beq, rcd, rno, Nat.reduceAdd, Nat.reduceBEq, Nat.reduceDiv, List.drop, List.take, List.reverse, List.reverseAux, Int.toNat, Option.toList, List.append, List.cons_append, List.nil_append, fI_qI, fR_qI, fL_qI, fI_qL, fR_qL, fL_qL, ug308]
                    intro r9 e9
                    cases e9
                    rw [← hb, fu_s (x := x) (i := i.toInt) (by omega), bbY]
                    repeat' split
                    all_goals first | rfl | (exfalso; omega)
          · have g11 := (eqI (x := r) (y := 0) h11 : (r : Int32).toInt = (0 : Int32).toInt)
            refine hB _ _ _ _ _ (fun m36 hm36 => ?_)
            dsimp only [ucgo, ucwp, ucsC, uqC, uoC, ctC, rfd, KX9_behindBlanks, KX9_behindBlanks_0, KX9_behindBlanks_4, KX9_behindBlanks_12, KX9_behindBlanks_26, KX9_behindBlanks_31, KX9_behindBlanks_35, KX9_behindBlanks_42, KX9_behindBlanks_54, KX9_behindBlanks_59, KX9_behindBlanks_63, KX9_behindBlanks_70, KX9_behindBlanks_77, KX9_behindBlanks_84, KX9_behindBlanks_86, KX9_behindBlanks_92, lkC, s1C, s2C, dlC, kyC, Nat.beq, rcd, rno, Nat.reduceAdd, Nat.reduceBEq, Nat.reduceDiv, List.drop, List.take, List.reverse, List.reverseAux, Int.toNat, Option.toList, List.append, List.cons_append, List.nil_append, fI_qI, fR_qI, fL_qI, fI_qL, fR_qL, fL_qL, ug308]
            have c37 : (Int32.ofInt 47).toInt = 47 := by decide
            refine ⟨fun h38 => ?_, fun h38 => ?_⟩
            · have g38 := (neI (x := r7) (y := (Int32.ofInt 47)) h38 : ¬ (r7 : Int32).toInt = ((Int32.ofInt 47) : Int32).toInt)
              refine hB _ _ _ _ _ (fun m39 hm39 => ?_)
              dsimp only [ucgo, ucwp, ucsC, uqC, uoC, ctC, rfd, KX9_behindBlanks, KX9_behindBlanks_0, KX9_behindBlanks_4, KX9_behindBlanks_12, KX9_behindBlanks_26, KX9_behindBlanks_31, KX9_behindBlanks_35, KX9_behindBlanks_42, KX9_behindBlanks_54, KX9_behindBlanks_59, KX9_behindBlanks_63, KX9_behindBlanks_70, KX9_behindBlanks_77, KX9_behindBlanks_84, KX9_behindBlanks_86, KX9_behindBlanks_92, lkC, s1C, s2C, dlC, kyC, Nat.beq, rcd, rno, Nat.reduceAdd, Nat.reduceBEq, Nat.reduceDiv, List.drop, List.take, List.reverse, List.reverseAux, Int.toNat, Option.toList, List.append, List.cons_append, List.nil_append, fI_qI, fR_qI, fL_qI, fI_qL, fR_qL, fL_qL, ug308]
              refine ⟨fun h40 => ?_, fun h40 => ?_⟩
              · have g40 := (neI (x := r) (y := 0) h40 : ¬ (r : Int32).toInt = (0 : Int32).toInt)
                refine hB _ _ _ _ _ (fun m41 hm41 => ?_)
                dsimp only [ucgo, ucwp, ucsC, uqC, uoC, ctC, rfd, KX9_behindBlanks, KX9_behindBlanks_0, KX9_behindBlanks_4, KX9_behindBlanks_12, KX9_behindBlanks_26, KX9_behindBlanks_31, KX9_behindBlanks_35, KX9_behindBlanks_42, KX9_behindBlanks_54, KX9_behindBlanks_59, KX9_behindBlanks_63, KX9_behindBlanks_70, KX9_behindBlanks_77, KX9_behindBlanks_84, KX9_behindBlanks_86, KX9_behindBlanks_92, lkC, s1C, s2C, dlC, kyC, Nat.beq, rcd, rno, Nat.reduceAdd, Nat.reduceBEq, Nat.reduceDiv, List.drop, List.take, List.reverse, List.reverseAux, Int.toNat, Option.toList, List.append, List.cons_append, List.nil_append, fI_qI, fR_qI, fL_qI, fI_qL, fR_qL, fL_qL, ug308]
                have c42 : (Int32.ofInt 1).toInt = 1 := by decide
                have a43 : (i + (Int32.ofInt 1)).toInt = i.toInt + 1 := addC (by omega) (by omega) (by omega)
                have e1 : ((i + (Int32.ofInt 1)) : Int32).toInt = (i.toInt + 1) := by omega
                rw [fu_s (x := x) (i := i.toInt) (by omega), bbY] at hb
                refine hW _ _ _ _ _ _ (List.forall_mem_cons.2 ⟨List.Mem.tail _ (List.Mem.tail _ (List.Mem.head _)), List.forall_mem_cons.2 ⟨List.Mem.head _, List.forall_mem_cons.2 ⟨List.Mem.tail _ (List.Mem.tail _ (List.Mem.tail _ (List.Mem.head _))), fun _ h => absurd h List.not_mem_nil⟩⟩⟩) (ih _ (by omega) (i + (Int32.ofInt 1)) r (by omega) (by omega) ?_)
                rw [e1]
                repeat' (split at hb)
                all_goals first | exact hb | (exfalso; omega)
              · have g40 := (eqI (x := r) (y := 0) h40 : (r : Int32).toInt = (0 : Int32).toInt)
                refine hB _ _ _ _ _ (fun m44 hm44 => ?_)
                dsimp only [ucgo, ucwp, ucsC, uqC, uoC, ctC, rfd, KX9_behindBlanks, KX9_behindBlanks_0, KX9_behindBlanks_4, KX9_behindBlanks_12, KX9_behindBlanks_26, KX9_behindBlanks_31, KX9_behindBlanks_35, KX9_behindBlanks_42, KX9_behindBlanks_54, KX9_behindBlanks_59, KX9_behindBlanks_63, KX9_behindBlanks_70, KX9_behindBlanks_77, KX9_behindBlanks_84, KX9_behindBlanks_86, KX9_behindBlanks_92, lkC, s1C, s2C, dlC, kyC, Nat.beq, rcd, rno, Nat.reduceAdd, Nat.reduceBEq, Nat.reduceDiv, List.drop, List.take, List.reverse, List.reverseAux, Int.toNat, Option.toList, List.append, List.cons_append, List.nil_append, fI_qI, fR_qI, fL_qI, fI_qL, fR_qL, fL_qL, ug308]
                have c45 : (Int32.ofInt 32).toInt = 32 := by decide
                refine ⟨fun h46 => ?_, fun h46 => ?_⟩
                · have g46 := (eqI (x := r7) (y := (Int32.ofInt 32)) h46 : (r7 : Int32).toInt = ((Int32.ofInt 32) : Int32).toInt)
                  refine hB _ _ _ _ _ (fun m47 hm47 => ?_)
                  dsimp only [ucgo, ucwp, ucsC, uqC, uoC, ctC, rfd, KX9_behindBlanks, KX9_behindBlanks_0, KX9_behindBlanks_4, KX9_behindBlanks_12, KX9_behindBlanks_26, KX9_behindBlanks_31, KX9_behindBlanks_35, KX9_behindBlanks_42, KX9_behindBlanks_54, KX9_behindBlanks_59, KX9_behindBlanks_63, KX9_behindBlanks_70, KX9_behindBlanks_77, KX9_behindBlanks_84, KX9_behindBlanks_86, KX9_behindBlanks_92, lkC, s1C, s2C, dlC, kyC, Nat.beq, rcd, rno, Nat.reduceAdd, Nat.reduceBEq, Nat.reduceDiv, List.drop, List.take, List.reverse, List.reverseAux, Int.toNat, Option.toList, List.append, List.cons_append, List.nil_append, fI_qI, fR_qI, fL_qI, fI_qL, fR_qL, fL_qL, ug308]
                  have c48 : (Int32.ofInt 1).toInt = 1 := by decide
                  have a49 : (i + (Int32.ofInt 1)).toInt = i.toInt + 1 := addC (by omega) (by omega) (by omega)
                  have e1 : ((i + (Int32.ofInt 1)) : Int32).toInt = (i.toInt + 1) := by omega
                  rw [fu_s (x := x) (i := i.toInt) (by omega), bbY] at hb
                  refine hW _ _ _ _ _ _ (List.forall_mem_cons.2 ⟨List.Mem.tail _ (List.Mem.tail _ (List.Mem.head _)), List.forall_mem_cons.2 ⟨List.Mem.head _, List.forall_mem_cons.2 ⟨List.Mem.tail _ (List.Mem.tail _ (List.Mem.tail _ (List.Mem.head _))), fun _ h => absurd h List.not_mem_nil⟩⟩⟩) (ih _ (by omega) (i + (Int32.ofInt 1)) r (by omega) (by omega) ?_)
                  rw [e1]
                  repeat' (split at hb)
                  all_goals first | exact hb | (exfalso; omega)
                · have g46 := (neI (x := r7) (y := (Int32.ofInt 32)) h46 : ¬ (r7 : Int32).toInt = ((Int32.ofInt 32) : Int32).toInt)
                  refine hB _ _ _ _ _ (fun m50 hm50 => ?_)
                  dsimp only [ucgo, ucwp, ucsC, uqC, uoC, ctC, rfd, KX9_behindBlanks, KX9_behindBlanks_0, KX9_behindBlanks_4, KX9_behindBlanks_12, KX9_behindBlanks_26, KX9_behindBlanks_31, KX9_behindBlanks_35, KX9_behindBlanks_42, KX9_behindBlanks_54, KX9_behindBlanks_59, KX9_behindBlanks_63, KX9_behindBlanks_70, KX9_behindBlanks_77, KX9_behindBlanks_84, KX9_behindBlanks_86, KX9_behindBlanks_92, lkC, s1C, s2C, dlC, kyC, Nat.beq, rcd, rno, Nat.reduceAdd, Nat.reduceBEq, Nat.reduceDiv, List.drop, List.take, List.reverse, List.reverseAux, Int.toNat, Option.toList, List.append, List.cons_append, List.nil_append, fI_qI, fR_qI, fL_qI, fI_qL, fR_qL, fL_qL, ug308]
                  have c51 : (Int32.ofInt 9).toInt = 9 := by decide
                  refine ⟨fun h52 => ?_, fun h52 => ?_⟩
                  · have g52 := (eqI (x := r7) (y := (Int32.ofInt 9)) h52 : (r7 : Int32).toInt = ((Int32.ofInt 9) : Int32).toInt)
                    refine hB _ _ _ _ _ (fun m53 hm53 => ?_)
                    dsimp only [ucgo, ucwp, ucsC, uqC, uoC, ctC, rfd, KX9_behindBlanks, KX9_behindBlanks_0, KX9_behindBlanks_4, KX9_behindBlanks_12, KX9_behindBlanks_26, KX9_behindBlanks_31, KX9_behindBlanks_35, KX9_behindBlanks_42, KX9_behindBlanks_54, KX9_behindBlanks_59, KX9_behindBlanks_63, KX9_behindBlanks_70, KX9_behindBlanks_77, KX9_behindBlanks_84, KX9_behindBlanks_86, KX9_behindBlanks_92, lkC, s1C, s2C, dlC, kyC, Nat.beq, rcd, rno, Nat.reduceAdd, Nat.reduceBEq, Nat.reduceDiv, List.drop, List.take, List.reverse, List.reverseAux, Int.toNat, Option.toList, List.append, List.cons_append, List.nil_append, fI_qI, fR_qI, fL_qI, fI_qL, fR_qL, fL_qL, ug308]
                    have c54 : (Int32.ofInt 1).toInt = 1 := by decide
                    have a55 : (i + (Int32.ofInt 1)).toInt = i.toInt + 1 := addC (by omega) (by omega) (by omega)
                    have e1 : ((i + (Int32.ofInt 1)) : Int32).toInt = (i.toInt + 1) := by omega
                    rw [fu_s (x := x) (i := i.toInt) (by omega), bbY] at hb
                    refine hW _ _ _ _ _ _ (List.forall_mem_cons.2 ⟨List.Mem.tail _ (List.Mem.tail _ (List.Mem.head _)), List.forall_mem_cons.2 ⟨List.Mem.head _, List.forall_mem_cons.2 ⟨List.Mem.tail _ (List.Mem.tail _ (List.Mem.tail _ (List.Mem.head _))), fun _ h => absurd h List.not_mem_nil⟩⟩⟩) (ih _ (by omega) (i + (Int32.ofInt 1)) r (by omega) (by omega) ?_)
                    rw [e1]
                    repeat' (split at hb)
                    all_goals first | exact hb | (exfalso; omega)
                  · have g52 := (neI (x := r7) (y := (Int32.ofInt 9)) h52 : ¬ (r7 : Int32).toInt = ((Int32.ofInt 9) : Int32).toInt)
                    refine hB _ _ _ _ _ (fun m56 hm56 => ?_)
                    dsimp only [ucgo, ucwp, ucsC, uqC, uoC, ctC, rfd, KX9_behindBlanks, KX9_behindBlanks_0, KX9_behindBlanks_4, KX9_behindBlanks_12, KX9_behindBlanks_26, KX9_behindBlanks_31, KX9_behindBlanks_35, KX9_behindBlanks_42, KX9_behindBlanks_54, KX9_behindBlanks_59, KX9_behindBlanks_63, KX9_behindBlanks_70, KX9_behindBlanks_77, KX9_behindBlanks_84, KX9_behindBlanks_86, KX9_behindBlanks_92, lkC, s1C, s2C, dlC, kyC, Nat.beq, rcd, rno, Nat.reduceAdd, Nat.reduceBEq, Nat.reduceDiv, List.drop, List.take, List.reverse, List.reverseAux, Int.toNat, Option.toList, List.append, List.cons_append, List.nil_append, fI_qI, fR_qI, fL_qI, fI_qL, fR_qL, fL_qL, ug308]
                    have c57 : (Int32.ofInt 13).toInt = 13 := by decide
                    refine ⟨fun h58 => ?_, fun h58 => ?_⟩
                    · have g58 := (eqI (x := r7) (y := (Int32.ofInt 13)) h58 : (r7 : Int32).toInt = ((Int32.ofInt 13) : Int32).toInt)
                      refine hB _ _ _ _ _ (fun m59 hm59 => ?_)
                      dsimp only [ucgo, ucwp, ucsC, uqC, uoC, ctC, rfd, KX9_behindBlanks, KX9_behindBlanks_0, KX9_behindBlanks_4, KX9_behindBlanks_12, KX9_behindBlanks_26, KX9_behindBlanks_31, KX9_behindBlanks_35, KX9_behindBlanks_42, KX9_behindBlanks_54, KX9_behindBlanks_59, KX9_behindBlanks_63, KX9_behindBlanks_70, KX9_behindBlanks_77, KX9_behindBlanks_84, KX9_behindBlanks_86, KX9_behindBlanks_92, lkC, s1C, s2C, dlC, kyC, Nat.beq, rcd, rno, Nat.reduceAdd, Nat.reduceBEq, Nat.reduceDiv, List.drop, List.take, List.reverse, List.reverseAux, Int.toNat, Option.toList, List.append, List.cons_append, List.nil_append, fI_qI, fR_qI, fL_qI, fI_qL, fR_qL, fL_qL, ug308]
                      have c60 : (Int32.ofInt 1).toInt = 1 := by decide
                      have a61 : (i + (Int32.ofInt 1)).toInt = i.toInt + 1 := addC (by omega) (by omega) (by omega)
                      have e1 : ((i + (Int32.ofInt 1)) : Int32).toInt = (i.toInt + 1) := by omega
                      rw [fu_s (x := x) (i := i.toInt) (by omega), bbY] at hb
                      refine hW _ _ _ _ _ _ (List.forall_mem_cons.2 ⟨List.Mem.tail _ (List.Mem.tail _ (List.Mem.head _)), List.forall_mem_cons.2 ⟨List.Mem.head _, List.forall_mem_cons.2 ⟨List.Mem.tail _ (List.Mem.tail _ (List.Mem.tail _ (List.Mem.head _))), fun _ h => absurd h List.not_mem_nil⟩⟩⟩) (ih _ (by omega) (i + (Int32.ofInt 1)) r (by omega) (by omega) ?_)
                      rw [e1]
                      repeat' (split at hb)
                      all_goals first | exact hb | (exfalso; omega)
                    · have g58 := (neI (x := r7) (y := (Int32.ofInt 13)) h58 : ¬ (r7 : Int32).toInt = ((Int32.ofInt 13) : Int32).toInt)
                      refine hB _ _ _ _ _ (fun m62 hm62 => ?_)
                      dsimp only [ucgo, ucwp, ucsC, uqC, uoC, ctC, rfd, KX9_behindBlanks, KX9_behindBlanks_0, KX9_behindBlanks_4, KX9_behindBlanks_12, KX9_behindBlanks_26, KX9_behindBlanks_31, KX9_behindBlanks_35, KX9_behindBlanks_42, KX9_behindBlanks_54, KX9_behindBlanks_59, KX9_behindBlanks_63, KX9_behindBlanks_70, KX9_behindBlanks_77, KX9_behindBlanks_84, KX9_behindBlanks_86, KX9_behindBlanks_92, lkC, s1C, s2C, dlC, kyC, Nat.beq, rcd, rno, Nat.reduceAdd, Nat.reduceBEq, Nat.reduceDiv, List.drop, List.take, List.reverse, List.reverseAux, Int.toNat, Option.toList, List.append, List.cons_append, List.nil_append, fI_qI, fR_qI, fL_qI, fI_qL, fR_qL, fL_qL, ug308]
                      intro r9 e9
                      cases e9
                      rw [← hb, fu_s (x := x) (i := i.toInt) (by omega), bbY]
                      repeat' split
                      all_goals first | rfl | (exfalso; omega)
            · have g38 := (eqI (x := r7) (y := (Int32.ofInt 47)) h38 : (r7 : Int32).toInt = ((Int32.ofInt 47) : Int32).toInt)
              refine hB _ _ _ _ _ (fun m63 hm63 => ?_)
              dsimp only [ucgo, ucwp, ucsC, uqC, uoC, ctC, rfd, KX9_behindBlanks, KX9_behindBlanks_0, KX9_behindBlanks_4, KX9_behindBlanks_12, KX9_behindBlanks_26, KX9_behindBlanks_31, KX9_behindBlanks_35, KX9_behindBlanks_42, KX9_behindBlanks_54, KX9_behindBlanks_59, KX9_behindBlanks_63, KX9_behindBlanks_70, KX9_behindBlanks_77, KX9_behindBlanks_84, KX9_behindBlanks_86, KX9_behindBlanks_92, lkC, s1C, s2C, dlC, kyC, Nat.beq, rcd, rno, Nat.reduceAdd, Nat.reduceBEq, Nat.reduceDiv, List.drop, List.take, List.reverse, List.reverseAux, Int.toNat, Option.toList, List.append, List.cons_append, List.nil_append, fI_qI, fR_qI, fL_qI, fI_qL, fR_qL, fL_qL, ug308]
              have c64 : (Int32.ofInt 1).toInt = 1 := by decide
              have a65 : (i + (Int32.ofInt 1)).toInt = i.toInt + 1 := addC (by omega) (by omega) (by omega)
              intro w66 τ66 o66 q66
              obtain ⟨r66, rfl, rfl⟩ := o66
              have b66 : r66.toInt = btY x (i.toInt + 1) := (q66 x hx r66 rfl).trans (by first | rfl | rw [show ((i + (Int32.ofInt 1)) : Int32).toInt = (i.toInt + 1) from by omega])
              dsimp only [Option.toList, List.cons_append, List.nil_append, s1C, s2C, dlC, kyC, Nat.beq, lkC, rcd, rno]
              have c67 : (Int32.ofInt 47).toInt = 47 := by decide
              refine ⟨fun h68 => ?_, fun h68 => ?_⟩
              · have g68 := (neI (x := r66) (y := (Int32.ofInt 47)) h68 : ¬ (r66 : Int32).toInt = ((Int32.ofInt 47) : Int32).toInt)
                refine hB _ _ _ _ _ (fun m69 hm69 => ?_)
                dsimp only [ucgo, ucwp, ucsC, uqC, uoC, ctC, rfd, KX9_behindBlanks, KX9_behindBlanks_0, KX9_behindBlanks_4, KX9_behindBlanks_12, KX9_behindBlanks_26, KX9_behindBlanks_31, KX9_behindBlanks_35, KX9_behindBlanks_42, KX9_behindBlanks_54, KX9_behindBlanks_59, KX9_behindBlanks_63, KX9_behindBlanks_70, KX9_behindBlanks_77, KX9_behindBlanks_84, KX9_behindBlanks_86, KX9_behindBlanks_92, lkC, s1C, s2C, dlC, kyC, Nat.beq, rcd, rno, Nat.reduceAdd, Nat.reduceBEq, Nat.reduceDiv, List.drop, List.take, List.reverse, List.reverseAux, Int.toNat, Option.toList, List.append, List.cons_append, List.nil_append, fI_qI, fR_qI, fL_qI, fI_qL, fR_qL, fL_qL, ug308]
                refine ⟨fun h70 => ?_, fun h70 => ?_⟩
                · have g70 := (neI (x := r) (y := 0) h70 : ¬ (r : Int32).toInt = (0 : Int32).toInt)
                  refine hB _ _ _ _ _ (fun m71 hm71 => ?_)
                  dsimp only [ucgo, ucwp, ucsC, uqC, uoC, ctC, rfd, KX9_behindBlanks, KX9_behindBlanks_0, KX9_behindBlanks_4, KX9_behindBlanks_12, KX9_behindBlanks_26, KX9_behindBlanks_31, KX9_behindBlanks_35, KX9_behindBlanks_42, KX9_behindBlanks_54, KX9_behindBlanks_59, KX9_behindBlanks_63, KX9_behindBlanks_70, KX9_behindBlanks_77, KX9_behindBlanks_84, KX9_behindBlanks_86, KX9_behindBlanks_92, lkC, s1C, s2C, dlC, kyC, Nat.beq, rcd, rno, Nat.reduceAdd, Nat.reduceBEq, Nat.reduceDiv, List.drop, List.take, List.reverse, List.reverseAux, Int.toNat, Option.toList, List.append, List.cons_append, List.nil_append, fI_qI, fR_qI, fL_qI, fI_qL, fR_qL, fL_qL, ug308]
                  have c72 : (Int32.ofInt 1).toInt = 1 := by decide
                  have a73 : (i + (Int32.ofInt 1)).toInt = i.toInt + 1 := addC (by omega) (by omega) (by omega)
                  have e1 : ((i + (Int32.ofInt 1)) : Int32).toInt = (i.toInt + 1) := by omega
                  rw [fu_s (x := x) (i := i.toInt) (by omega), bbY] at hb
                  refine hW _ _ _ _ _ _ (List.forall_mem_cons.2 ⟨List.Mem.tail _ (List.Mem.tail _ (List.Mem.head _)), List.forall_mem_cons.2 ⟨List.Mem.head _, List.forall_mem_cons.2 ⟨List.Mem.tail _ (List.Mem.tail _ (List.Mem.tail _ (List.Mem.head _))), fun _ h => absurd h List.not_mem_nil⟩⟩⟩) (ih _ (by omega) (i + (Int32.ofInt 1)) r (by omega) (by omega) ?_)
                  rw [e1]
                  repeat' (split at hb)
                  all_goals first | exact hb | (exfalso; omega)
                · have g70 := (eqI (x := r) (y := 0) h70 : (r : Int32).toInt = (0 : Int32).toInt)
                  refine hB _ _ _ _ _ (fun m74 hm74 => ?_)
                  dsimp only [ucgo, ucwp, ucsC, uqC, uoC, ctC, rfd, KX9_behindBlanks, KX9_behindBlanks_0, KX9_behindBlanks_4, KX9_behindBlanks_12, KX9_behindBlanks_26, KX9_behindBlanks_31, KX9_behindBlanks_35, KX9_behindBlanks_42, KX9_behindBlanks_54, KX9_behindBlanks_59, KX9_behindBlanks_63, KX9_behindBlanks_70, KX9_behindBlanks_77, KX9_behindBlanks_84, KX9_behindBlanks_86, KX9_behindBlanks_92, lkC, s1C, s2C, dlC, kyC, Nat.beq, rcd, rno, Nat.reduceAdd, Nat.reduceBEq, Nat.reduceDiv, List.drop, List.take, List.reverse, List.reverseAux, Int.toNat, Option.toList, List.append, List.cons_append, List.nil_append, fI_qI, fR_qI, fL_qI, fI_qL, fR_qL, fL_qL, ug308]
                  have c75 : (Int32.ofInt 32).toInt = 32 := by decide
                  refine ⟨fun h76 => ?_, fun h76 => ?_⟩
                  · have g76 := (eqI (x := r7) (y := (Int32.ofInt 32)) h76 : (r7 : Int32).toInt = ((Int32.ofInt 32) : Int32).toInt)
                    refine hB _ _ _ _ _ (fun m77 hm77 => ?_)
                    dsimp only [ucgo, ucwp, ucsC, uqC, uoC, ctC, rfd, KX9_behindBlanks, KX9_behindBlanks_0, KX9_behindBlanks_4, KX9_behindBlanks_12, KX9_behindBlanks_26, KX9_behindBlanks_31, KX9_behindBlanks_35, KX9_behindBlanks_42, KX9_behindBlanks_54, KX9_behindBlanks_59, KX9_behindBlanks_63, KX9_behindBlanks_70, KX9_behindBlanks_77, KX9_behindBlanks_84, KX9_behindBlanks_86, KX9_behindBlanks_92, lkC, s1C, s2C, dlC, kyC, Nat.beq, rcd, rno, Nat.reduceAdd, Nat.reduceBEq, Nat.reduceDiv, List.drop, List.take, List.reverse, List.reverseAux, Int.toNat, Option.toList, List.append, List.cons_append, List.nil_append, fI_qI, fR_qI, fL_qI, fI_qL, fR_qL, fL_qL, ug308]
                    have c78 : (Int32.ofInt 1).toInt = 1 := by decide
                    have a79 : (i + (Int32.ofInt 1)).toInt = i.toInt + 1 := addC (by omega) (by omega) (by omega)
                    have e1 : ((i + (Int32.ofInt 1)) : Int32).toInt = (i.toInt + 1) := by omega
                    rw [fu_s (x := x) (i := i.toInt) (by omega), bbY] at hb
                    refine hW _ _ _ _ _ _ (List.forall_mem_cons.2 ⟨List.Mem.tail _ (List.Mem.tail _ (List.Mem.head _)), List.forall_mem_cons.2 ⟨List.Mem.head _, List.forall_mem_cons.2 ⟨List.Mem.tail _ (List.Mem.tail _ (List.Mem.tail _ (List.Mem.head _))), fun _ h => absurd h List.not_mem_nil⟩⟩⟩) (ih _ (by omega) (i + (Int32.ofInt 1)) r (by omega) (by omega) ?_)
                    rw [e1]
                    repeat' (split at hb)
                    all_goals first | exact hb | (exfalso; omega)
                  · have g76 := (neI (x := r7) (y := (Int32.ofInt 32)) h76 : ¬ (r7 : Int32).toInt = ((Int32.ofInt 32) : Int32).toInt)
                    refine hB _ _ _ _ _ (fun m80 hm80 => ?_)
                    dsimp only [ucgo, ucwp, ucsC, uqC, uoC, ctC, rfd, KX9_behindBlanks, KX9_behindBlanks_0, KX9_behindBlanks_4, KX9_behindBlanks_12, KX9_behindBlanks_26, KX9_behindBlanks_31, KX9_behindBlanks_35, KX9_behindBlanks_42, KX9_behindBlanks_54, KX9_behindBlanks_59, KX9_behindBlanks_63, KX9_behindBlanks_70, KX9_behindBlanks_77, KX9_behindBlanks_84, KX9_behindBlanks_86, KX9_behindBlanks_92, lkC, s1C, s2C, dlC, kyC, Nat.beq, rcd, rno, Nat.reduceAdd, Nat.reduceBEq, Nat.reduceDiv, List.drop, List.take, List.reverse, List.reverseAux, Int.toNat, Option.toList, List.append, List.cons_append, List.nil_append, fI_qI, fR_qI, fL_qI, fI_qL, fR_qL, fL_qL, ug308]
                    have c81 : (Int32.ofInt 9).toInt = 9 := by decide
                    refine ⟨fun h82 => ?_, fun h82 => ?_⟩
                    · have g82 := (eqI (x := r7) (y := (Int32.ofInt 9)) h82 : (r7 : Int32).toInt = ((Int32.ofInt 9) : Int32).toInt)
                      refine hB _ _ _ _ _ (fun m83 hm83 => ?_)
                      dsimp only [ucgo, ucwp, ucsC, uqC, uoC, ctC, rfd, KX9_behindBlanks, KX9_behindBlanks_0, KX9_behindBlanks_4, KX9_behindBlanks_12, KX9_behindBlanks_26, KX9_behindBlanks_31, KX9_behindBlanks_35, KX9_behindBlanks_42, KX9_behindBlanks_54, KX9_behindBlanks_59, KX9_behindBlanks_63, KX9_behindBlanks_70, KX9_behindBlanks_77, KX9_behindBlanks_84, KX9_behindBlanks_86, KX9_behindBlanks_92, lkC, s1C, s2C, dlC, kyC, Nat.beq, rcd, rno, Nat.reduceAdd, Nat.reduceBEq, Nat.reduceDiv, List.drop, List.take, List.reverse, List.reverseAux, Int.toNat, Option.toList, List.append, List.cons_append, List.nil_append, fI_qI, fR_qI, fL_qI, fI_qL, fR_qL, fL_qL, ug308]
                      have c84 : (Int32.ofInt 1).toInt = 1 := by decide
                      have a85 : (i + (Int32.ofInt 1)).toInt = i.toInt + 1 := addC (by omega) (by omega) (by omega)
                      have e1 : ((i + (Int32.ofInt 1)) : Int32).toInt = (i.toInt + 1) := by omega
                      rw [fu_s (x := x) (i := i.toInt) (by omega), bbY] at hb
                      refine hW _ _ _ _ _ _ (List.forall_mem_cons.2 ⟨List.Mem.tail _ (List.Mem.tail _ (List.Mem.head _)), List.forall_mem_cons.2 ⟨List.Mem.head _, List.forall_mem_cons.2 ⟨List.Mem.tail _ (List.Mem.tail _ (List.Mem.tail _ (List.Mem.head _))), fun _ h => absurd h List.not_mem_nil⟩⟩⟩) (ih _ (by omega) (i + (Int32.ofInt 1)) r (by omega) (by omega) ?_)
                      rw [e1]
                      repeat' (split at hb)
                      all_goals first | exact hb | (exfalso; omega)
                    · have g82 := (neI (x := r7) (y := (Int32.ofInt 9)) h82 : ¬ (r7 : Int32).toInt = ((Int32.ofInt 9) : Int32).toInt)
                      refine hB _ _ _ _ _ (fun m86 hm86 => ?_)
                      dsimp only [ucgo, ucwp, ucsC, uqC, uoC, ctC, rfd, KX9_behindBlanks, KX9_behindBlanks_0, KX9_behindBlanks_4, KX9_behindBlanks_12, KX9_behindBlanks_26, KX9_behindBlanks_31, KX9_behindBlanks_35, KX9_behindBlanks_42, KX9_behindBlanks_54, KX9_behindBlanks_59, KX9_behindBlanks_63, KX9_behindBlanks_70, KX9_behindBlanks_77, KX9_behindBlanks_84, KX9_behindBlanks_86, KX9_behindBlanks_92, lkC, s1C, s2C, dlC, kyC, Nat.beq, rcd, rno, Nat.reduceAdd, Nat.reduceBEq, Nat.reduceDiv, List.drop, List.take, List.reverse, List.reverseAux, Int.toNat, Option.toList, List.append, List.cons_append, List.nil_append, fI_qI, fR_qI, fL_qI, fI_qL, fR_qL, fL_qL, ug308]
                      have c87 : (Int32.ofInt 13).toInt = 13 := by decide
                      refine ⟨fun h88 => ?_, fun h88 => ?_⟩
                      · have g88 := (eqI (x := r7) (y := (Int32.ofInt 13)) h88 : (r7 : Int32).toInt = ((Int32.ofInt 13) : Int32).toInt)
                        refine hB _ _ _ _ _ (fun m89 hm89 => ?_)
                        dsimp only [ucgo, ucwp, ucsC, uqC, uoC, ctC, rfd, KX9_behindBlanks, KX9_behindBlanks_0, KX9_behindBlanks_4, KX9_behindBlanks_12, KX9_behindBlanks_26, KX9_behindBlanks_31, KX9_behindBlanks_35, KX9_behindBlanks_42, KX9_behindBlanks_54, KX9_behindBlanks_59, KX9_behindBlanks_63, KX9_behindBlanks_70, KX9_behindBlanks_77, KX9_behindBlanks_84, KX9_behindBlanks_86, KX9_behindBlanks_92, lkC, s1C, s2C, dlC, kyC, Nat.beq, rcd, rno, Nat.reduceAdd, Nat.reduceBEq, Nat.reduceDiv, List.drop, List.take, List.reverse, List.reverseAux, Int.toNat, Option.toList, List.append, List.cons_append, List.nil_append, fI_qI, fR_qI, fL_qI, fI_qL, fR_qL, fL_qL, ug308]
                        have c90 : (Int32.ofInt 1).toInt = 1 := by decide
                        have a91 : (i + (Int32.ofInt 1)).toInt = i.toInt + 1 := addC (by omega) (by omega) (by omega)
                        have e1 : ((i + (Int32.ofInt 1)) : Int32).toInt = (i.toInt + 1) := by omega
                        rw [fu_s (x := x) (i := i.toInt) (by omega), bbY] at hb
                        refine hW _ _ _ _ _ _ (List.forall_mem_cons.2 ⟨List.Mem.tail _ (List.Mem.tail _ (List.Mem.head _)), List.forall_mem_cons.2 ⟨List.Mem.head _, List.forall_mem_cons.2 ⟨List.Mem.tail _ (List.Mem.tail _ (List.Mem.tail _ (List.Mem.head _))), fun _ h => absurd h List.not_mem_nil⟩⟩⟩) (ih _ (by omega) (i + (Int32.ofInt 1)) r (by omega) (by omega) ?_)
                        rw [e1]
                        repeat' (split at hb)
                        all_goals first | exact hb | (exfalso; omega)
                      · have g88 := (neI (x := r7) (y := (Int32.ofInt 13)) h88 : ¬ (r7 : Int32).toInt = ((Int32.ofInt 13) : Int32).toInt)
                        refine hB _ _ _ _ _ (fun m92 hm92 => ?_)
                        dsimp only [ucgo, ucwp, ucsC, uqC, uoC, ctC, rfd, KX9_behindBlanks, KX9_behindBlanks_0, KX9_behindBlanks_4, KX9_behindBlanks_12, KX9_behindBlanks_26, KX9_behindBlanks_31, KX9_behindBlanks_35, KX9_behindBlanks_42, KX9_behindBlanks_54, KX9_behindBlanks_59, KX9_behindBlanks_63, KX9_behindBlanks_70, KX9_behindBlanks_77, KX9_behindBlanks_84, KX9_behindBlanks_86, KX9_behindBlanks_92, lkC, s1C, s2C, dlC, kyC, Nat.beq, rcd, rno, Nat.reduceAdd, Nat.reduceBEq, Nat.reduceDiv, List.drop, List.take, List.reverse, List.reverseAux, Int.toNat, Option.toList, List.append, List.cons_append, List.nil_append, fI_qI, fR_qI, fL_qI, fI_qL, fR_qL, fL_qL, ug308]
                        intro r9 e9
                        cases e9
                        rw [← hb, fu_s (x := x) (i := i.toInt) (by omega), bbY]
                        repeat' split
                        all_goals first | rfl | (exfalso; omega)
              · have g68 := (eqI (x := r66) (y := (Int32.ofInt 47)) h68 : (r66 : Int32).toInt = ((Int32.ofInt 47) : Int32).toInt)
                refine hB _ _ _ _ _ (fun m93 hm93 => ?_)
                dsimp only [ucgo, ucwp, ucsC, uqC, uoC, ctC, rfd, KX9_behindBlanks, KX9_behindBlanks_0, KX9_behindBlanks_4, KX9_behindBlanks_12, KX9_behindBlanks_26, KX9_behindBlanks_31, KX9_behindBlanks_35, KX9_behindBlanks_42, KX9_behindBlanks_54, KX9_behindBlanks_59, KX9_behindBlanks_63, KX9_behindBlanks_70, KX9_behindBlanks_77, KX9_behindBlanks_84, KX9_behindBlanks_86, KX9_behindBlanks_92, lkC, s1C, s2C, dlC, kyC, Nat.beq, rcd, rno, Nat.reduceAdd, Nat.reduceBEq, Nat.reduceDiv, List.drop, List.take, List.reverse, List.reverseAux, Int.toNat, Option.toList, List.append, List.cons_append, List.nil_append, fI_qI, fR_qI, fL_qI, fI_qL, fR_qL, fL_qL, ug308]
                have c94 : (Int32.ofInt 1).toInt = 1 := by decide
                refine hB _ _ _ _ _ (fun m95 hm95 => ?_)
                dsimp only [ucgo, ucwp, ucsC, uqC, uoC, ctC, rfd, KX9_behindBlanks, KX9_behindBlanks_0, KX9_behindBlanks_4, KX9_behindBlanks_12, KX9_behindBlanks_26, KX9_behindBlanks_31, KX9_behindBlanks_35, KX9_behindBlanks_42, KX9_behindBlanks_54, KX9_behindBlanks_59, KX9_behindBlanks_63, KX9_behindBlanks_70, KX9_behindBlanks_77, KX9_behindBlanks_84, KX9_behindBlanks_86, KX9_behindBlanks_92, lkC, s1C, s2C, dlC, kyC, Nat.beq, rcd, rno, Nat.reduceAdd, Nat.reduceBEq, Nat.reduceDiv, List.drop, List.take, List.reverse, List.reverseAux, Int.toNat, Option.toList, List.append, List.cons_append, List.nil_append, fI_qI, fR_qI, fL_qI, fI_qL, fR_qL, fL_qL, ug308]
                have c96 : (Int32.ofInt 1).toInt = 1 := by decide
                have a97 : (i + (Int32.ofInt 1)).toInt = i.toInt + 1 := addC (by omega) (by omega) (by omega)
                have e1 : ((i + (Int32.ofInt 1)) : Int32).toInt = (i.toInt + 1) := by omega
                rw [fu_s (x := x) (i := i.toInt) (by omega), bbY] at hb
                refine hW _ _ _ _ _ _ (List.forall_mem_cons.2 ⟨List.Mem.tail _ (List.Mem.tail _ (List.Mem.tail _ (List.Mem.head _))), List.forall_mem_cons.2 ⟨List.Mem.head _, List.forall_mem_cons.2 ⟨List.Mem.tail _ (List.Mem.head _), fun _ h => absurd h List.not_mem_nil⟩⟩⟩) (ih _ (by omega) (i + (Int32.ofInt 1)) (Int32.ofInt 1) (by omega) (by omega) ?_)
                rw [e1]
                rw [show ((Int32.ofInt 1) : Int32).toInt = 1 from by omega]
                repeat' (split at hb)
                all_goals first | exact hb | (exfalso; omega)
        · have g9 := (eqI (x := r7) (y := (Int32.ofInt 10)) h9 : (r7 : Int32).toInt = ((Int32.ofInt 10) : Int32).toInt)
          refine hB _ _ _ _ _ (fun m98 hm98 => ?_)
          dsimp only [ucgo, ucwp, ucsC, uqC, uoC, ctC, rfd, KX9_behindBlanks, KX9_behindBlanks_0, KX9_behindBlanks_4, KX9_behindBlanks_12, KX9_behindBlanks_26, KX9_behindBlanks_31, KX9_behindBlanks_35, KX9_behindBlanks_42, KX9_behindBlanks_54, KX9_behindBlanks_59, KX9_behindBlanks_63, KX9_behindBlanks_70, KX9_behindBlanks_77, KX9_behindBlanks_84, KX9_behindBlanks_86, KX9_behindBlanks_92, lkC, s1C, s2C, dlC, kyC, Nat.beq, rcd, rno, Nat.reduceAdd, Nat.reduceBEq, Nat.reduceDiv, List.drop, List.take, List.reverse, List.reverseAux, Int.toNat, Option.toList, List.append, List.cons_append, List.nil_append, fI_qI, fR_qI, fL_qI, fI_qL, fR_qL, fL_qL, ug308]
          have c99 : (Int32.ofInt 0).toInt = 0 := by decide
          refine hB _ _ _ _ _ (fun m100 hm100 => ?_)
          dsimp only [ucgo, ucwp, ucsC, uqC, uoC, ctC, rfd, KX9_behindBlanks, KX9_behindBlanks_0, KX9_behindBlanks_4, KX9_behindBlanks_12, KX9_behindBlanks_26, KX9_behindBlanks_31, KX9_behindBlanks_35, KX9_behindBlanks_42, KX9_behindBlanks_54, KX9_behindBlanks_59, KX9_behindBlanks_63, KX9_behindBlanks_70, KX9_behindBlanks_77, KX9_behindBlanks_84, KX9_behindBlanks_86, KX9_behindBlanks_92, lkC, s1C, s2C, dlC, kyC, Nat.beq, rcd, rno, Nat.reduceAdd, Nat.reduceBEq, Nat.reduceDiv, List.drop, List.take, List.reverse, List.reverseAux, Int.toNat, Option.toList, List.append, List.cons_append, List.nil_append, fI_qI, fR_qI, fL_qI, fI_qL, fR_qL, fL_qL, ug308]
          have c101 : (Int32.ofInt 1).toInt = 1 := by decide
          have a102 : (i + (Int32.ofInt 1)).toInt = i.toInt + 1 := addC (by omega) (by omega) (by omega)
          have e1 : ((i + (Int32.ofInt 1)) : Int32).toInt = (i.toInt + 1) := by omega
          rw [fu_s (x := x) (i := i.toInt) (by omega), bbY] at hb
          refine hW _ _ _ _ _ _ (List.forall_mem_cons.2 ⟨List.Mem.tail _ (List.Mem.tail _ (List.Mem.tail _ (List.Mem.head _))), List.forall_mem_cons.2 ⟨List.Mem.head _, List.forall_mem_cons.2 ⟨List.Mem.tail _ (List.Mem.head _), fun _ h => absurd h List.not_mem_nil⟩⟩⟩) (ih _ (by omega) (i + (Int32.ofInt 1)) (Int32.ofInt 0) (by omega) (by omega) ?_)
          rw [e1]
          rw [show ((Int32.ofInt 0) : Int32).toInt = 0 from by omega]
          repeat' (split at hb)
          all_goals first | exact hb | (exfalso; omega)
  refine hB _ _ _ _ _ (fun m1 hm1 => ?_)
  dsimp only [ucgo, ucwp, ucsC, uqC, uoC, ctC, rfd, KX9_behindBlanks, KX9_behindBlanks_0, KX9_behindBlanks_4, KX9_behindBlanks_12, KX9_behindBlanks_26, KX9_behindBlanks_31, KX9_behindBlanks_35, KX9_behindBlanks_42, KX9_behindBlanks_54, KX9_behindBlanks_59, KX9_behindBlanks_63, KX9_behindBlanks_70, KX9_behindBlanks_77, KX9_behindBlanks_84, KX9_behindBlanks_86, KX9_behindBlanks_92, lkC, s1C, s2C, dlC, kyC, Nat.beq, rcd, rno, Nat.reduceAdd, Nat.reduceBEq, Nat.reduceDiv, List.drop, List.take, List.reverse, List.reverseAux, Int.toNat, Option.toList, List.append, List.cons_append, List.nil_append, fI_qI, fR_qI, fL_qI, fI_qL, fR_qL, fL_qL, ug308]
  exact hW _ _ _ _ _ _ (List.forall_mem_cons.2 ⟨List.Mem.tail _ (List.Mem.tail _ (List.Mem.head _)), List.forall_mem_cons.2 ⟨List.Mem.tail _ (List.Mem.head _), List.forall_mem_cons.2 ⟨List.Mem.head _, fun _ h => absurd h List.not_mem_nil⟩⟩⟩) (L4 _ p1 _ hp1 (Or.inl rfl) rfl)
theorem n_behindBlanks (l : Launch) : CMetC l 2 190 P_X9_behindBlanks R_behindBlanks := CMetC.of KX9_behindBlanks (uc2C [(189, P_X9_byteAt, Q_X9_byteAt)] [(189, U_byteAt)]) hX9_behindBlanks (by decide) (by decide) okX9_behindBlanks (cc1C (n_byteAt l) (by decide) cc0C) lg_X9_behindBlanks (b_X9_behindBlanks.and p_behindBlanks)
