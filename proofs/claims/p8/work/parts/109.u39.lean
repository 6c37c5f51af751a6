/-- a token's sort by its code -/
def srY (c : Int) : Int := if c = 80 then 1 else if c = 81 ∨ c = 82 then 2 else if c = 83 then 3 else if 50 ≤ c then 4 else 5
abbrev Pp_sort (_y : Unit) : CpC := fun _ σ => cnC σ < 1000000
abbrev Qp_sort (_y : Unit) : CqC := fun As σ w τ => match As with
  | [.inr (.inr (some p0)), .inl p1] => ∀ r, w = some (.inl r) → ∀ a, fRC σ p0 302 = some a → r.toInt = srY (eIC σ a p1.toNatClampNeg).toInt
  | _ => True
theorem sr_1 {c : Int} (h : c = 80) : (1 : Int) = srY c := by unfold srY; rw [if_pos h]
theorem sr_2 {c : Int} (h : ¬ c = 80) (g : c = 81 ∨ c = 82) : (2 : Int) = srY c := by unfold srY; rw [if_neg h, if_pos g]
theorem sr_3 {c : Int} (h : c = 83) : (3 : Int) = srY c := by unfold srY; rw [if_neg (by omega), if_neg (by omega), if_pos h]
theorem sr_4 {c : Int} (h : ¬ c = 80) (h2 : ¬ c = 81) (h3 : ¬ c = 82) (h4 : ¬ c = 83) (h5 : 50 ≤ c) : (4 : Int) = srY c := by unfold srY; rw [if_neg h, if_neg (by omega), if_neg h4, if_pos h5]
theorem sr_5 {c : Int} (h5 : c < 50) : (5 : Int) = srY c := by unfold srY; rw [if_neg (by omega), if_neg (by omega), if_neg (by omega), if_neg (by omega)]
theorem p_sort (y : Unit) : PbC KX9_sort [] [] (fun As σ => P_X9_sort As σ ∧ Pp_sort y As σ) (Qp_sort y) := by
  rintro As σ ⟨⟨p0, p1, rfl, H0, h0, hp0, hp1⟩, hcn⟩ K hB hW n
  replace hcn : cnC σ < 1000000 := hcn
  have z0 := z0I
  obtain ⟨ac, -, eac, tac, -⟩ := cg302 H0.1 h0
  have lac := tac.1
  change K n 0 [(0, .inr (.inr (some p0))), (1, .inl p1)] [] σ
  refine hB _ _ _ _ _ (fun m51 hm51 => ?_)
  dsimp only [ucgo, ucwp, ucsC, uqC, uoC, ctC, rfd, KX9_sort, KX9_sort_0, KX9_sort_13, KX9_sort_15, KX9_sort_21, KX9_sort_27, KX9_sort_29, KX9_sort_35, KX9_sort_37, KX9_sort_43, KX9_sort_47, KX9_sort_48, lkC, s1C, s2C, dlC, kyC, Nat.beq, rcd, rno, Nat.reduceAdd, Nat.reduceBEq, Nat.reduceDiv, List.drop, List.take, List.reverse, List.reverseAux, Int.toNat, Option.toList, List.append, List.cons_append, List.nil_append, fI_qI, fR_qI, fL_qI, fI_qL, fR_qL, fL_qL, ug302]
  intro a52 e52 ob52
  cases e52
  intro a53 e53
  obtain rfl : ac = a53 := Option.some.inj (eac.symm.trans e53)
  refine ⟨fun t53 v53 => ?_, fun y53 => absurd y53 (by omega), fun y53 => absurd y53 (by omega)⟩
  have c54 : (Int32.ofInt 80).toInt = 80 := by decide
  refine ⟨fun h55 => ?_, fun h55 => ?_⟩
  · have g55 := (neI (x := (eIC σ ac p1.toNatClampNeg)) (y := (Int32.ofInt 80)) h55 : ¬ ((eIC σ ac p1.toNatClampNeg) : Int32).toInt = ((Int32.ofInt 80) : Int32).toInt)
    refine hB _ _ _ _ _ (fun m56 hm56 => ?_)
    dsimp only [ucgo, ucwp, ucsC, uqC, uoC, ctC, rfd, KX9_sort, KX9_sort_0, KX9_sort_13, KX9_sort_15, KX9_sort_21, KX9_sort_27, KX9_sort_29, KX9_sort_35, KX9_sort_37, KX9_sort_43, KX9_sort_47, KX9_sort_48, lkC, s1C, s2C, dlC, kyC, Nat.beq, rcd, rno, Nat.reduceAdd, Nat.reduceBEq, Nat.reduceDiv, List.drop, List.take, List.reverse, List.reverseAux, Int.toNat, Option.toList, List.append, List.cons_append, List.nil_append, fI_qI, fR_qI, fL_qI, fI_qL, fR_qL, fL_qL, ug302]
    have c57 : (Int32.ofInt 81).toInt = 81 := by decide
    refine ⟨fun h58 => ?_, fun h58 => ?_⟩
    · have g58 := (eqI (x := (eIC σ ac p1.toNatClampNeg)) (y := (Int32.ofInt 81)) h58 : ((eIC σ ac p1.toNatClampNeg) : Int32).toInt = ((Int32.ofInt 81) : Int32).toInt)
      refine hB _ _ _ _ _ (fun m59 hm59 => ?_)
      dsimp only [ucgo, ucwp, ucsC, uqC, uoC, ctC, rfd, KX9_sort, KX9_sort_0, KX9_sort_13, KX9_sort_15, KX9_sort_21, KX9_sort_27, KX9_sort_29, KX9_sort_35, KX9_sort_37, KX9_sort_43, KX9_sort_47, KX9_sort_48, lkC, s1C, s2C, dlC, kyC, Nat.beq, rcd, rno, Nat.reduceAdd, Nat.reduceBEq, Nat.reduceDiv, List.drop, List.take, List.reverse, List.reverseAux, Int.toNat, Option.toList, List.append, List.cons_append, List.nil_append, fI_qI, fR_qI, fL_qI, fI_qL, fR_qL, fL_qL, ug302]
      have c60 : (Int32.ofInt 2).toInt = 2 := by decide
      intro r9 e9
      obtain rfl := Sum.inl.inj (Option.some.inj e9)
      intro a9 f9
      obtain rfl : ac = a9 := Option.some.inj (eac.symm.trans f9)
      first
        | exact (show (Int32.ofInt 2).toInt = _ from by decide).trans (sr_1 (by omega))
        | exact (show (Int32.ofInt 2).toInt = _ from by decide).trans (sr_2 (by omega) (by omega))
        | exact (show (Int32.ofInt 2).toInt = _ from by decide).trans (sr_3 (by omega))
        | exact (show (Int32.ofInt 2).toInt = _ from by decide).trans (sr_4 (by omega) (by omega) (by omega) (by omega) (by omega))
        | exact (show (Int32.ofInt 2).toInt = _ from by decide).trans (sr_5 (by omega))
    · have g58 := (neI (x := (eIC σ ac p1.toNatClampNeg)) (y := (Int32.ofInt 81)) h58 : ¬ ((eIC σ ac p1.toNatClampNeg) : Int32).toInt = ((Int32.ofInt 81) : Int32).toInt)
      refine hB _ _ _ _ _ (fun m61 hm61 => ?_)
      dsimp only [ucgo, ucwp, ucsC, uqC, uoC, ctC, rfd, KX9_sort, KX9_sort_0, KX9_sort_13, KX9_sort_15, KX9_sort_21, KX9_sort_27, KX9_sort_29, KX9_sort_35, KX9_sort_37, KX9_sort_43, KX9_sort_47, KX9_sort_48, lkC, s1C, s2C, dlC, kyC, Nat.beq, rcd, rno, Nat.reduceAdd, Nat.reduceBEq, Nat.reduceDiv, List.drop, List.take, List.reverse, List.reverseAux, Int.toNat, Option.toList, List.append, List.cons_append, List.nil_append, fI_qI, fR_qI, fL_qI, fI_qL, fR_qL, fL_qL, ug302]
      have c62 : (Int32.ofInt 82).toInt = 82 := by decide
      refine ⟨fun h63 => ?_, fun h63 => ?_⟩
      · have g63 := (neI (x := (eIC σ ac p1.toNatClampNeg)) (y := (Int32.ofInt 82)) h63 : ¬ ((eIC σ ac p1.toNatClampNeg) : Int32).toInt = ((Int32.ofInt 82) : Int32).toInt)
        refine hB _ _ _ _ _ (fun m64 hm64 => ?_)
        dsimp only [ucgo, ucwp, ucsC, uqC, uoC, ctC, rfd, KX9_sort, KX9_sort_0, KX9_sort_13, KX9_sort_15, KX9_sort_21, KX9_sort_27, KX9_sort_29, KX9_sort_35, KX9_sort_37, KX9_sort_43, KX9_sort_47, KX9_sort_48, lkC, s1C, s2C, dlC, kyC, Nat.beq, rcd, rno, Nat.reduceAdd, Nat.reduceBEq, Nat.reduceDiv, List.drop, List.take, List.reverse, List.reverseAux, Int.toNat, Option.toList, List.append, List.cons_append, List.nil_append, fI_qI, fR_qI, fL_qI, fI_qL, fR_qL, fL_qL, ug302]
        have c65 : (Int32.ofInt 83).toInt = 83 := by decide
        refine ⟨fun h66 => ?_, fun h66 => ?_⟩
        · have g66 := (neI (x := (eIC σ ac p1.toNatClampNeg)) (y := (Int32.ofInt 83)) h66 : ¬ ((eIC σ ac p1.toNatClampNeg) : Int32).toInt = ((Int32.ofInt 83) : Int32).toInt)
          refine hB _ _ _ _ _ (fun m67 hm67 => ?_)
          dsimp only [ucgo, ucwp, ucsC, uqC, uoC, ctC, rfd, KX9_sort, KX9_sort_0, KX9_sort_13, KX9_sort_15, KX9_sort_21, KX9_sort_27, KX9_sort_29, KX9_sort_35, KX9_sort_37, KX9_sort_43, KX9_sort_47, KX9_sort_48, lkC, s1C, s2C, dlC, kyC, Nat.beq, rcd, rno, Nat.reduceAdd, Nat.reduceBEq, Nat.reduceDiv, List.drop, List.take, List.reverse, List.reverseAux, Int.toNat, Option.toList, List.append, List.cons_append, List.nil_append, fI_qI, fR_qI, fL_qI, fI_qL, fR_qL, fL_qL, ug302]
          have c68 : (Int32.ofInt 50).toInt = 50 := by decide
          refine ⟨fun h69 => ?_, fun h69 => ?_⟩
          · have g69 := ltI (x := (eIC σ ac p1.toNatClampNeg)) (y := (Int32.ofInt 50)) h69
            refine hB _ _ _ _ _ (fun m70 hm70 => ?_)
            dsimp only [ucgo, ucwp, ucsC, uqC, uoC, ctC, rfd, KX9_sort, KX9_sort_0, KX9_sort_13, KX9_sort_15, KX9_sort_21, KX9_sort_27, KX9_sort_29, KX9_sort_35, KX9_sort_37, KX9_sort_43, KX9_sort_47, KX9_sort_48, lkC, s1C, s2C, dlC, kyC, Nat.beq, rcd, rno, Nat.reduceAdd, Nat.reduceBEq, Nat.reduceDiv, List.drop, List.take, List.reverse, List.reverseAux, Int.toNat, Option.toList, List.append, List.cons_append, List.nil_append, fI_qI, fR_qI, fL_qI, fI_qL, fR_qL, fL_qL, ug302]
            have c71 : (Int32.ofInt 5).toInt = 5 := by decide
            refine hB _ _ _ _ _ (fun m72 hm72 => ?_)
            dsimp only [ucgo, ucwp, ucsC, uqC, uoC, ctC, rfd, KX9_sort, KX9_sort_0, KX9_sort_13, KX9_sort_15, KX9_sort_21, KX9_sort_27, KX9_sort_29, KX9_sort_35, KX9_sort_37, KX9_sort_43, KX9_sort_47, KX9_sort_48, lkC, s1C, s2C, dlC, kyC, Nat.beq, rcd, rno, Nat.reduceAdd, Nat.reduceBEq, Nat.reduceDiv, List.drop, List.take, List.reverse, List.reverseAux, Int.toNat, Option.toList, List.append, List.cons_append, List.nil_append, fI_qI, fR_qI, fL_qI, fI_qL, fR_qL, fL_qL, ug302]
            intro r9 e9
            obtain rfl := Sum.inl.inj (Option.some.inj e9)
            intro a9 f9
            obtain rfl : ac = a9 := Option.some.inj (eac.symm.trans f9)
            first
              | exact (show (Int32.ofInt 5).toInt = _ from by decide).trans (sr_1 (by omega))
              | exact (show (Int32.ofInt 5).toInt = _ from by decide).trans (sr_2 (by omega) (by omega))
              | exact (show (Int32.ofInt 5).toInt = _ from by decide).trans (sr_3 (by omega))
              | exact (show (Int32.ofInt 5).toInt = _ from by decide).trans (sr_4 (by omega) (by omega) (by omega) (by omega) (by omega))
              | exact (show (Int32.ofInt 5).toInt = _ from by decide).trans (sr_5 (by omega))
          · have g69 := nltI (x := (eIC σ ac p1.toNatClampNeg)) (y := (Int32.ofInt 50)) h69
            refine hB _ _ _ _ _ (fun m73 hm73 => ?_)
            dsimp only [ucgo, ucwp, ucsC, uqC, uoC, ctC, rfd, KX9_sort, KX9_sort_0, KX9_sort_13, KX9_sort_15, KX9_sort_21, KX9_sort_27, KX9_sort_29, KX9_sort_35, KX9_sort_37, KX9_sort_43, KX9_sort_47, KX9_sort_48, lkC, s1C, s2C, dlC, kyC, Nat.beq, rcd, rno, Nat.reduceAdd, Nat.reduceBEq, Nat.reduceDiv, List.drop, List.take, List.reverse, List.reverseAux, Int.toNat, Option.toList, List.append, List.cons_append, List.nil_append, fI_qI, fR_qI, fL_qI, fI_qL, fR_qL, fL_qL, ug302]
            have c74 : (Int32.ofInt 4).toInt = 4 := by decide
            refine hB _ _ _ _ _ (fun m75 hm75 => ?_)
            dsimp only [ucgo, ucwp, ucsC, uqC, uoC, ctC, rfd, KX9_sort, KX9_sort_0, KX9_sort_13, KX9_sort_15, KX9_sort_21, KX9_sort_27, KX9_sort_29, KX9_sort_35, KX9_sort_37, KX9_sort_43, KX9_sort_47, KX9_sort_48, lkC, s1C, s2C, dlC, kyC, Nat.beq, rcd, rno, Nat.reduceAdd, Nat.reduceBEq, Nat.reduceDiv, List.drop, List.take, List.reverse, List.reverseAux, Int.toNat, Option.toList, List.append, List.cons_append, List.nil_append, fI_qI, fR_qI, fL_qI, fI_qL, fR_qL, fL_qL, ug302]
            intro r9 e9
            obtain rfl := Sum.inl.inj (Option.some.inj e9)
            intro a9 f9
            obtain rfl : ac = a9 := Option.some.inj (eac.symm.trans f9)
            first
              | exact (show (Int32.ofInt 4).toInt = _ from by decide).trans (sr_1 (by omega))
              | exact (show (Int32.ofInt 4).toInt = _ from by decide).trans (sr_2 (by omega) (by omega))
              | exact (show (Int32.ofInt 4).toInt = _ from by decide).trans (sr_3 (by omega))
              | exact (show (Int32.ofInt 4).toInt = _ from by decide).trans (sr_4 (by omega) (by omega) (by omega) (by omega) (by omega))
              | exact (show (Int32.ofInt 4).toInt = _ from by decide).trans (sr_5 (by omega))
        · have g66 := (eqI (x := (eIC σ ac p1.toNatClampNeg)) (y := (Int32.ofInt 83)) h66 : ((eIC σ ac p1.toNatClampNeg) : Int32).toInt = ((Int32.ofInt 83) : Int32).toInt)
          refine hB _ _ _ _ _ (fun m76 hm76 => ?_)
          dsimp only [ucgo, ucwp, ucsC, uqC, uoC, ctC, rfd, KX9_sort, KX9_sort_0, KX9_sort_13, KX9_sort_15, KX9_sort_21, KX9_sort_27, KX9_sort_29, KX9_sort_35, KX9_sort_37, KX9_sort_43, KX9_sort_47, KX9_sort_48, lkC, s1C, s2C, dlC, kyC, Nat.beq, rcd, rno, Nat.reduceAdd, Nat.reduceBEq, Nat.reduceDiv, List.drop, List.take, List.reverse, List.reverseAux, Int.toNat, Option.toList, List.append, List.cons_append, List.nil_append, fI_qI, fR_qI, fL_qI, fI_qL, fR_qL, fL_qL, ug302]
          have c77 : (Int32.ofInt 3).toInt = 3 := by decide
          intro r9 e9
          obtain rfl := Sum.inl.inj (Option.some.inj e9)
          intro a9 f9
          obtain rfl : ac = a9 := Option.some.inj (eac.symm.trans f9)
          first
            | exact (show (Int32.ofInt 3).toInt = _ from by decide).trans (sr_1 (by omega))
            | exact (show (Int32.ofInt 3).toInt = _ from by decide).trans (sr_2 (by omega) (by omega))
            | exact (show (Int32.ofInt 3).toInt = _ from by decide).trans (sr_3 (by omega))
            | exact (show (Int32.ofInt 3).toInt = _ from by decide).trans (sr_4 (by omega) (by omega) (by omega) (by omega) (by omega))
            | exact (show (Int32.ofInt 3).toInt = _ from by decide).trans (sr_5 (by omega))
      · have g63 := (eqI (x := (eIC σ ac p1.toNatClampNeg)) (y := (Int32.ofInt 82)) h63 : ((eIC σ ac p1.toNatClampNeg) : Int32).toInt = ((Int32.ofInt 82) : Int32).toInt)
        refine hB _ _ _ _ _ (fun m78 hm78 => ?_)
        dsimp only [ucgo, ucwp, ucsC, uqC, uoC, ctC, rfd, KX9_sort, KX9_sort_0, KX9_sort_13, KX9_sort_15, KX9_sort_21, KX9_sort_27, KX9_sort_29, KX9_sort_35, KX9_sort_37, KX9_sort_43, KX9_sort_47, KX9_sort_48, lkC, s1C, s2C, dlC, kyC, Nat.beq, rcd, rno, Nat.reduceAdd, Nat.reduceBEq, Nat.reduceDiv, List.drop, List.take, List.reverse, List.reverseAux, Int.toNat, Option.toList, List.append, List.cons_append, List.nil_append, fI_qI, fR_qI, fL_qI, fI_qL, fR_qL, fL_qL, ug302]
        have c79 : (Int32.ofInt 2).toInt = 2 := by decide
        intro r9 e9
        obtain rfl := Sum.inl.inj (Option.some.inj e9)
        intro a9 f9
        obtain rfl : ac = a9 := Option.some.inj (eac.symm.trans f9)
        first
          | exact (show (Int32.ofInt 2).toInt = _ from by decide).trans (sr_1 (by omega))
          | exact (show (Int32.ofInt 2).toInt = _ from by decide).trans (sr_2 (by omega) (by omega))
          | exact (show (Int32.ofInt 2).toInt = _ from by decide).trans (sr_3 (by omega))
          | exact (show (Int32.ofInt 2).toInt = _ from by decide).trans (sr_4 (by omega) (by omega) (by omega) (by omega) (by omega))
          | exact (show (Int32.ofInt 2).toInt = _ from by decide).trans (sr_5 (by omega))
  · have g55 := (eqI (x := (eIC σ ac p1.toNatClampNeg)) (y := (Int32.ofInt 80)) h55 : ((eIC σ ac p1.toNatClampNeg) : Int32).toInt = ((Int32.ofInt 80) : Int32).toInt)
    refine hB _ _ _ _ _ (fun m80 hm80 => ?_)
    dsimp only [ucgo, ucwp, ucsC, uqC, uoC, ctC, rfd, KX9_sort, KX9_sort_0, KX9_sort_13, KX9_sort_15, KX9_sort_21, KX9_sort_27, KX9_sort_29, KX9_sort_35, KX9_sort_37, KX9_sort_43, KX9_sort_47, KX9_sort_48, lkC, s1C, s2C, dlC, kyC, Nat.beq, rcd, rno, Nat.reduceAdd, Nat.reduceBEq, Nat.reduceDiv, List.drop, List.take, List.reverse, List.reverseAux, Int.toNat, Option.toList, List.append, List.cons_append, List.nil_append, fI_qI, fR_qI, fL_qI, fI_qL, fR_qL, fL_qL, ug302]
    have c81 : (Int32.ofInt 1).toInt = 1 := by decide
    intro r9 e9
    obtain rfl := Sum.inl.inj (Option.some.inj e9)
    intro a9 f9
    obtain rfl : ac = a9 := Option.some.inj (eac.symm.trans f9)
    first
      | exact (show (Int32.ofInt 1).toInt = _ from by decide).trans (sr_1 (by omega))
      | exact (show (Int32.ofInt 1).toInt = _ from by decide).trans (sr_2 (by omega) (by omega))
      | exact (show (Int32.ofInt 1).toInt = _ from by decide).trans (sr_3 (by omega))
      | exact (show (Int32.ofInt 1).toInt = _ from by decide).trans (sr_4 (by omega) (by omega) (by omega) (by omega) (by omega))
      | exact (show (Int32.ofInt 1).toInt = _ from by decide).trans (sr_5 (by omega))
abbrev U_sort : CqC := fun As σ w τ => ∀ y, Pp_sort y As σ → Qp_sort y As σ w τ
theorem n_sort (l : Launch) : CMetC l 1 187 P_X9_sort (fun As σ w τ => Q_X9_sort As σ w τ ∧ U_sort As σ w τ) := CMetC.of KX9_sort (uc2C [] []) hX9_sort (by decide) (by decide) okX9_sort cc0C lg_X9_sort (b_X9_sort.and p_sort)
/-- what token answers -/
def tknY (y : TxY) (m : Nat) (i w : Int) : Int := if i < 0 ∨ (m : Int) ≤ i then -1 else if w = 0 then atY y i.toNat else if w = 1 then (oneY y (atY y i.toNat)).1 else if w = 2 then srY (oneY y (atY y i.toNat)).2 else -1
theorem tn_b {y : TxY} {m : Nat} {i w : Int} (h : i < 0 ∨ (m : Int) ≤ i) : (-1 : Int) = tknY y m i w := by unfold tknY; rw [if_pos h]
theorem tn_0 {y : TxY} {m : Nat} {i w r : Int} (h : ¬ (i < 0 ∨ (m : Int) ≤ i)) (g : w = 0) (e : r = atY y i.toNat) : r = tknY y m i w := by unfold tknY; rw [if_neg h, if_pos g]; exact e
theorem tn_1 {y : TxY} {m : Nat} {i w r : Int} (h : ¬ (i < 0 ∨ (m : Int) ≤ i)) (g : w = 1) (e : r = (oneY y (atY y i.toNat)).1) : r = tknY y m i w := by unfold tknY; rw [if_neg h, if_neg (by omega), if_pos g]; exact e
theorem tn_2 {y : TxY} {m : Nat} {i w r : Int} (h : ¬ (i < 0 ∨ (m : Int) ≤ i)) (g : w = 2) (e : r = srY (oneY y (atY y i.toNat)).2) : r = tknY y m i w := by unfold tknY; rw [if_neg h, if_neg (by omega), if_neg (by omega), if_pos g]; exact e
theorem tn_3 {y : TxY} {m : Nat} {i w : Int} (g0 : ¬ w = 0) (g1 : ¬ w = 1) (g2 : ¬ w = 2) : (-1 : Int) = tknY y m i w := by
  unfold tknY
  rcases Decidable.em (i < 0 ∨ (m : Int) ≤ i) with q | q
  · rw [if_pos q]
  · rw [if_neg q, if_neg g0, if_neg g1, if_neg g2]
abbrev Pp_token (z : TxY × Nat) : CpC := fun As σ => match As with
  | [.inr (.inr (some p0)), .inl p1, .inl p2] => cnC σ < 1000000 ∧ TcP σ p0 z.1 z.2
  | _ => False
abbrev Qp_token (z : TxY × Nat) : CqC := fun As σ w τ => match As with
  | [.inr (.inr (some p0)), .inl p1, .inl p2] => ∀ r, w = some (.inl r) → r.toInt = tknY z.1 z.2 p1.toInt p2.toInt
  | _ => True
theorem p_token (z : TxY × Nat) : PbC KX11_token [(187, P_X9_sort, Q_X9_sort)] [(187, U_sort)] (fun As σ => P_X11_token As σ ∧ Pp_token z As σ) (Qp_token z) := by
  obtain ⟨y, m⟩ := z
  rintro As σ ⟨⟨p0, p1, p2, rfl, H0, h0⟩, hx⟩ K hB hW n
  replace hx : cnC σ < 1000000 ∧ TcP σ p0 y m := hx
  obtain ⟨hcn, P, t, hP, ht, a0, a1, a2, ⟨f0, f1, f2⟩, i5, hr⟩ := hx
  have z0 := z0I
  obtain ⟨P2, -, eP2, tP2⟩ := cg363 H0.1 h0
  obtain rfl : P = P2 := Option.some.inj (hP.symm.trans eP2)
  obtain ⟨t2, -, et2, tt2⟩ := cg210 H0.1 tP2
  obtain rfl : t = t2 := Option.some.inj (ht.symm.trans et2)
  obtain ⟨b0, -, eb0, tb0, -⟩ := cg300 H0.1 tt2
  obtain ⟨b1, -, eb1, tb1, -⟩ := cg301 H0.1 tt2
  have l0 : a0 < cnC σ := by rw [Option.some.inj (f0.symm.trans eb0)]; exact tb0.1
  have l1 : a1 < cnC σ := by rw [Option.some.inj (f1.symm.trans eb1)]; exact tb1.1
  change K n 0 [(0, .inr (.inr (some p0))), (1, .inl p1), (2, .inl p2)] [] σ
  refine hB _ _ _ _ _ (fun m51 hm51 => ?_)
  dsimp only [ucgo, ucwp, ucsC, uqC, uoC, ctC, rfd, rsw, KX11_token, KX11_token_0, KX11_token_12, KX11_token_20, KX11_token_22, KX11_token_48, KX11_token_55, KX11_token_62, KX11_token_68, lkC, s1C, s2C, dlC, kyC, Nat.beq, rcd, rno, Nat.reduceAdd, Nat.reduceBEq, Nat.reduceDiv, List.drop, List.take, List.reverse, List.reverseAux, Int.toNat, Option.toList, List.append, List.cons_append, List.nil_append, fI_qI, fR_qI, fL_qI, fI_qL, fR_qL, fL_qL, ug210, ug300, ug301, ug305, ug363]
  intro a52 e52 ob52
  cases e52
  intro a53 e53 ob53
  obtain rfl : P = a53 := Option.some.inj (hP.symm.trans e53)
  refine ⟨fun h54 => ?_, fun h54 => ?_⟩
  · have g54 := ltI (x := p1) (y := 0) h54
    refine hB _ _ _ _ _ (fun m55 hm55 => ?_)
    dsimp only [ucgo, ucwp, ucsC, uqC, uoC, ctC, rfd, rsw, KX11_token, KX11_token_0, KX11_token_12, KX11_token_20, KX11_token_22, KX11_token_48, KX11_token_55, KX11_token_62, KX11_token_68, lkC, s1C, s2C, dlC, kyC, Nat.beq, rcd, rno, Nat.reduceAdd, Nat.reduceBEq, Nat.reduceDiv, List.drop, List.take, List.reverse, List.reverseAux, Int.toNat, Option.toList, List.append, List.cons_append, List.nil_append, fI_qI, fR_qI, fL_qI, fI_qL, fR_qL, fL_qL, ug210, ug300, ug301, ug305, ug363]
    have c56 : (Int32.ofInt (-1)).toInt = -1 := by decide
    intro r9 e9
    obtain rfl := Sum.inl.inj (Option.some.inj e9)
    exact (show (Int32.ofInt (-1)).toInt = -1 from by decide).trans (by first | exact tn_b (by omega) | exact tn_3 (by omega) (by omega) (by omega))
  · have g54 := nltI (x := p1) (y := 0) h54
    refine hB _ _ _ _ _ (fun m57 hm57 => ?_)
    dsimp only [ucgo, ucwp, ucsC, uqC, uoC, ctC, rfd, rsw, KX11_token, KX11_token_0, KX11_token_12, KX11_token_20, KX11_token_22, KX11_token_48, KX11_token_55, KX11_token_62, KX11_token_68, lkC, s1C, s2C, dlC, kyC, Nat.beq, rcd, rno, Nat.reduceAdd, Nat.reduceBEq, Nat.reduceDiv, List.drop, List.take, List.reverse, List.reverseAux, Int.toNat, Option.toList, List.append, List.cons_append, List.nil_append, fI_qI, fR_qI, fL_qI, fI_qL, fR_qL, fL_qL, ug210, ug300, ug301, ug305, ug363]
    intro a58 e58 ob58
    obtain rfl : t = a58 := Option.some.inj (ht.symm.trans e58)
    refine ⟨fun h59 => ?_, fun h59 => ?_⟩
    · have g59 := ltI (x := p1) (y := (fIC σ t 305)) h59
      refine hB _ _ _ _ _ (fun m60 hm60 => ?_)
      dsimp only [ucgo, ucwp, ucsC, uqC, uoC, ctC, rfd, rsw, KX11_token, KX11_token_0, KX11_token_12, KX11_token_20, KX11_token_22, KX11_token_48, KX11_token_55, KX11_token_62, KX11_token_68, lkC, s1C, s2C, dlC, kyC, Nat.beq, rcd, rno, Nat.reduceAdd, Nat.reduceBEq, Nat.reduceDiv, List.drop, List.take, List.reverse, List.reverseAux, Int.toNat, Option.toList, List.append, List.cons_append, List.nil_append, fI_qI, fR_qI, fL_qI, fI_qL, fR_qL, fL_qL, ug210, ug300, ug301, ug305, ug363]
      refine ⟨fun h61 => ?_, fun h61 => ?_⟩
      · have g61 : (p2 : Int32).toInt = 0 := h61
        refine hB _ _ _ _ _ (fun m62 hm62 => ?_)
        dsimp only [ucgo, ucwp, ucsC, uqC, uoC, ctC, rfd, rsw, KX11_token, KX11_token_0, KX11_token_12, KX11_token_20, KX11_token_22, KX11_token_48, KX11_token_55, KX11_token_62, KX11_token_68, lkC, s1C, s2C, dlC, kyC, Nat.beq, rcd, rno, Nat.reduceAdd, Nat.reduceBEq, Nat.reduceDiv, List.drop, List.take, List.reverse, List.reverseAux, Int.toNat, Option.toList, List.append, List.cons_append, List.nil_append, fI_qI, fR_qI, fL_qI, fI_qL, fR_qL, fL_qL, ug210, ug300, ug301, ug305, ug363]
        intro a63 e63 ob63
        obtain rfl : t = a63 := Option.some.inj (ht.symm.trans e63)
        intro a64 e64
        obtain rfl : a0 = a64 := Option.some.inj (f0.symm.trans e64)
        refine ⟨fun t64 v64 => ?_, fun y64 => absurd y64 (by omega), fun y64 => absurd y64 (by omega)⟩
        intro r9 e9
        obtain rfl := Sum.inl.inj (Option.some.inj e9)
        have j1 := hr p1.toInt.toNat (by omega)
        exact tn_0 (by omega) (by omega) j1.1
      have g61 : ¬ (p2 : Int32).toInt = 0 := h61
      refine ⟨fun h65 => ?_, fun h65 => ?_⟩
      · have g65 : (p2 : Int32).toInt = 1 := h65
        refine hB _ _ _ _ _ (fun m66 hm66 => ?_)
        dsimp only [ucgo, ucwp, ucsC, uqC, uoC, ctC, rfd, rsw, KX11_token, KX11_token_0, KX11_token_12, KX11_token_20, KX11_token_22, KX11_token_48, KX11_token_55, KX11_token_62, KX11_token_68, lkC, s1C, s2C, dlC, kyC, Nat.beq, rcd, rno, Nat.reduceAdd, Nat.reduceBEq, Nat.reduceDiv, List.drop, List.take, List.reverse, List.reverseAux, Int.toNat, Option.toList, List.append, List.cons_append, List.nil_append, fI_qI, fR_qI, fL_qI, fI_qL, fR_qL, fL_qL, ug210, ug300, ug301, ug305, ug363]
        intro a67 e67 ob67
        obtain rfl : t = a67 := Option.some.inj (ht.symm.trans e67)
        intro a68 e68
        obtain rfl : a1 = a68 := Option.some.inj (f1.symm.trans e68)
        refine ⟨fun t68 v68 => ?_, fun y68 => absurd y68 (by omega), fun y68 => absurd y68 (by omega)⟩
        intro r9 e9
        obtain rfl := Sum.inl.inj (Option.some.inj e9)
        have j1 := hr p1.toInt.toNat (by omega)
        exact tn_1 (by omega) (by omega) j1.2.1
      have g65 : ¬ (p2 : Int32).toInt = 1 := h65
      refine ⟨fun h69 => ?_, fun h69 => ?_⟩
      · have g69 : (p2 : Int32).toInt = 2 := h69
        refine hB _ _ _ _ _ (fun m70 hm70 => ?_)
        dsimp only [ucgo, ucwp, ucsC, uqC, uoC, ctC, rfd, rsw, KX11_token, KX11_token_0, KX11_token_12, KX11_token_20, KX11_token_22, KX11_token_48, KX11_token_55, KX11_token_62, KX11_token_68, lkC, s1C, s2C, dlC, kyC, Nat.beq, rcd, rno, Nat.reduceAdd, Nat.reduceBEq, Nat.reduceDiv, List.drop, List.take, List.reverse, List.reverseAux, Int.toNat, Option.toList, List.append, List.cons_append, List.nil_append, fI_qI, fR_qI, fL_qI, fI_qL, fR_qL, fL_qL, ug210, ug300, ug301, ug305, ug363]
        split
        case h_2 => trivial
        rename_i b71 rs71 hq71
        obtain ⟨hq1_71, hq2_71⟩ := List.cons.inj hq71
        subst hq2_71
        have rc71 := Sum.inr.inj (Sum.inr.inj hq1_71)
        intro w71 τ71 o71 q71
        obtain rfl : t = b71 := Option.some.inj (ht.symm.trans rc71)
        obtain ⟨r71, rfl, rfl⟩ := o71
        have s71 := q71 () hcn r71 rfl a2 f2
        dsimp only [Option.toList, List.cons_append, List.nil_append, s1C, s2C, dlC, kyC, Nat.beq, lkC, rcd, rno]
        intro r9 e9
        obtain rfl := Sum.inl.inj (Option.some.inj e9)
        have j1 := hr p1.toInt.toNat (by omega)
        exact tn_2 (by omega) (by omega) (by rw [s71]; show srY (eIC σ a2 p1.toInt.toNat).toInt = _; rw [j1.2.2])
      have g69 : ¬ (p2 : Int32).toInt = 2 := h69
      refine hB _ _ _ _ _ (fun m72 hm72 => ?_)
      dsimp only [ucgo, ucwp, ucsC, uqC, uoC, ctC, rfd, rsw, KX11_token, KX11_token_0, KX11_token_12, KX11_token_20, KX11_token_22, KX11_token_48, KX11_token_55, KX11_token_62, KX11_token_68, lkC, s1C, s2C, dlC, kyC, Nat.beq, rcd, rno, Nat.reduceAdd, Nat.reduceBEq, Nat.reduceDiv, List.drop, List.take, List.reverse, List.reverseAux, Int.toNat, Option.toList, List.append, List.cons_append, List.nil_append, fI_qI, fR_qI, fL_qI, fI_qL, fR_qL, fL_qL, ug210, ug300, ug301, ug305, ug363]
      have c73 : (Int32.ofInt (-1)).toInt = -1 := by decide
      intro r9 e9
      obtain rfl := Sum.inl.inj (Option.some.inj e9)
      exact (show (Int32.ofInt (-1)).toInt = -1 from by decide).trans (by first | exact tn_b (by omega) | exact tn_3 (by omega) (by omega) (by omega))
    · have g59 := nltI (x := p1) (y := (fIC σ t 305)) h59
      refine hB _ _ _ _ _ (fun m74 hm74 => ?_)
      dsimp only [ucgo, ucwp, ucsC, uqC, uoC, ctC, rfd, rsw, KX11_token, KX11_token_0, KX11_token_12, KX11_token_20, KX11_token_22, KX11_token_48, KX11_token_55, KX11_token_62, KX11_token_68, lkC, s1C, s2C, dlC, kyC, Nat.beq, rcd, rno, Nat.reduceAdd, Nat.reduceBEq, Nat.reduceDiv, List.drop, List.take, List.reverse, List.reverseAux, Int.toNat, Option.toList, List.append, List.cons_append, List.nil_append, fI_qI, fR_qI, fL_qI, fI_qL, fR_qL, fL_qL, ug210, ug300, ug301, ug305, ug363]
      have c75 : (Int32.ofInt (-1)).toInt = -1 := by decide
      intro r9 e9
      obtain rfl := Sum.inl.inj (Option.some.inj e9)
      exact (show (Int32.ofInt (-1)).toInt = -1 from by decide).trans (by first | exact tn_b (by omega) | exact tn_3 (by omega) (by omega) (by omega))
abbrev U_token : CqC := fun As σ w τ => ∀ z, Pp_token z As σ → Qp_token z As σ w τ
theorem n_token (l : Launch) : CMetC l 2 208 P_X11_token (fun As σ w τ => Q_X11_token As σ w τ ∧ U_token As σ w τ) := CMetC.of KX11_token (uc2C [(187, P_X9_sort, Q_X9_sort)] [(187, U_sort)]) hX11_token (by decide) (by decide) okX11_token (cc1C (n_sort l) (by decide) cc0C) lg_X11_token (b_X11_token.and p_token)
