def P_isNumber : RP := fun As σ => match As with
  | [.int ty] => True
  | _ => False
def Q_isNumber : RQ := fun As σ w τ => match As with
  | [.int ty] => ∃ r : Int32, w = some (.int r) ∧ (r = 0 ∨ (r = 1 ∧ 1 ≤ ty ∧ ty ≤ 4)) ∧ τ = σ
  | _ => False
set_option maxRecDepth 100000 in
set_option maxHeartbeats 4000000 in
theorem b_isNumber : Bod BisNumber [] P_isNumber Q_isNumber := by
  · intro As σ hP G hB hW
    unfold P_isNumber at hP
    split at hP
    next ty => 
      unfold Q_isNumber at hB
      dsimp only at hB
      apply hB
      dsimp only [rgo, rfd, BisNumber, Nat.beq, rwp, rst, lv_args, rlk, rs1, rs2, rdl, rky, rct, rcs, rcd, rno, rsw, Value.category, List.filter, List.take, List.drop, List.reverse, List.reverseAux, List.cons_append, List.nil_append, Option.toList, Int.toNat, Int.reduceToNat, if_pos, if_neg, reduceIte, ↓reduceIte, Nat.reduceAdd, Nat.reduceEqDiff, Nat.reduceBEq, beq_self_eq_true, Bool.not_true, Bool.not_false, Bool.and_true, Bool.and_false, Bool.true_and, Bool.false_and, gI_sI, gI_sL, gI_sA, gI_sM, gL_sI, gL_sL, gL_sA, gL_sM, aI_sI, aI_sL, aI_sA, aI_sM, aL_sI, aL_sL, aL_sA, aL_sM, BisNumber_0, BisNumber_5, BisNumber_10, BisNumber_14, BisNumber_15, oi_0, oi_1, oi_4]; try dsimp only
      refine ⟨fun h1 => ?_, fun h1 => ?_⟩
      · apply hB
        dsimp only [rgo, rfd, BisNumber, Nat.beq, rwp, rst, lv_args, rlk, rs1, rs2, rdl, rky, rct, rcs, rcd, rno, rsw, Value.category, List.filter, List.take, List.drop, List.reverse, List.reverseAux, List.cons_append, List.nil_append, Option.toList, Int.toNat, Int.reduceToNat, if_pos, if_neg, reduceIte, ↓reduceIte, Nat.reduceAdd, Nat.reduceEqDiff, Nat.reduceBEq, beq_self_eq_true, Bool.not_true, Bool.not_false, Bool.and_true, Bool.and_false, Bool.true_and, Bool.false_and, gI_sI, gI_sL, gI_sA, gI_sM, gL_sI, gL_sL, gL_sA, gL_sM, aI_sI, aI_sL, aI_sA, aI_sM, aL_sI, aL_sL, aL_sA, aL_sM, BisNumber_0, BisNumber_5, BisNumber_10, BisNumber_14, BisNumber_15, oi_0, oi_1, oi_4]; try dsimp only
        apply hB
        dsimp only [rgo, rfd, BisNumber, Nat.beq, rwp, rst, lv_args, rlk, rs1, rs2, rdl, rky, rct, rcs, rcd, rno, rsw, Value.category, List.filter, List.take, List.drop, List.reverse, List.reverseAux, List.cons_append, List.nil_append, Option.toList, Int.toNat, Int.reduceToNat, if_pos, if_neg, reduceIte, ↓reduceIte, Nat.reduceAdd, Nat.reduceEqDiff, Nat.reduceBEq, beq_self_eq_true, Bool.not_true, Bool.not_false, Bool.and_true, Bool.and_false, Bool.true_and, Bool.false_and, gI_sI, gI_sL, gI_sA, gI_sM, gL_sI, gL_sL, gL_sA, gL_sM, aI_sI, aI_sL, aI_sA, aI_sM, aL_sI, aL_sL, aL_sA, aL_sM, BisNumber_0, BisNumber_5, BisNumber_10, BisNumber_14, BisNumber_15, oi_0, oi_1, oi_4]; try dsimp only
        refine ⟨Or.inl rfl, ?_⟩
        exact ⟨_, rfl, Or.inl rfl, rfl⟩
      · apply hB
        dsimp only [rgo, rfd, BisNumber, Nat.beq, rwp, rst, lv_args, rlk, rs1, rs2, rdl, rky, rct, rcs, rcd, rno, rsw, Value.category, List.filter, List.take, List.drop, List.reverse, List.reverseAux, List.cons_append, List.nil_append, Option.toList, Int.toNat, Int.reduceToNat, if_pos, if_neg, reduceIte, ↓reduceIte, Nat.reduceAdd, Nat.reduceEqDiff, Nat.reduceBEq, beq_self_eq_true, Bool.not_true, Bool.not_false, Bool.and_true, Bool.and_false, Bool.true_and, Bool.false_and, gI_sI, gI_sL, gI_sA, gI_sM, gL_sI, gL_sL, gL_sA, gL_sM, aI_sI, aI_sL, aI_sA, aI_sM, aL_sI, aL_sL, aL_sA, aL_sM, BisNumber_0, BisNumber_5, BisNumber_10, BisNumber_14, BisNumber_15, oi_0, oi_1, oi_4]; try dsimp only
        refine ⟨fun h2 => ?_, fun h2 => ?_⟩
        · apply hB
          dsimp only [rgo, rfd, BisNumber, Nat.beq, rwp, rst, lv_args, rlk, rs1, rs2, rdl, rky, rct, rcs, rcd, rno, rsw, Value.category, List.filter, List.take, List.drop, List.reverse, List.reverseAux, List.cons_append, List.nil_append, Option.toList, Int.toNat, Int.reduceToNat, if_pos, if_neg, reduceIte, ↓reduceIte, Nat.reduceAdd, Nat.reduceEqDiff, Nat.reduceBEq, beq_self_eq_true, Bool.not_true, Bool.not_false, Bool.and_true, Bool.and_false, Bool.true_and, Bool.false_and, gI_sI, gI_sL, gI_sA, gI_sM, gL_sI, gL_sL, gL_sA, gL_sM, aI_sI, aI_sL, aI_sA, aI_sM, aL_sI, aL_sL, aL_sA, aL_sM, BisNumber_0, BisNumber_5, BisNumber_10, BisNumber_14, BisNumber_15, oi_0, oi_1, oi_4]; try dsimp only
          apply hB
          dsimp only [rgo, rfd, BisNumber, Nat.beq, rwp, rst, lv_args, rlk, rs1, rs2, rdl, rky, rct, rcs, rcd, rno, rsw, Value.category, List.filter, List.take, List.drop, List.reverse, List.reverseAux, List.cons_append, List.nil_append, Option.toList, Int.toNat, Int.reduceToNat, if_pos, if_neg, reduceIte, ↓reduceIte, Nat.reduceAdd, Nat.reduceEqDiff, Nat.reduceBEq, beq_self_eq_true, Bool.not_true, Bool.not_false, Bool.and_true, Bool.and_false, Bool.true_and, Bool.false_and, gI_sI, gI_sL, gI_sA, gI_sM, gL_sI, gL_sL, gL_sA, gL_sM, aI_sI, aI_sL, aI_sA, aI_sM, aL_sI, aL_sL, aL_sA, aL_sM, BisNumber_0, BisNumber_5, BisNumber_10, BisNumber_14, BisNumber_15, oi_0, oi_1, oi_4]; try dsimp only
          refine ⟨Or.inl rfl, ?_⟩
          exact ⟨_, rfl, Or.inl rfl, rfl⟩
        · apply hB
          dsimp only [rgo, rfd, BisNumber, Nat.beq, rwp, rst, lv_args, rlk, rs1, rs2, rdl, rky, rct, rcs, rcd, rno, rsw, Value.category, List.filter, List.take, List.drop, List.reverse, List.reverseAux, List.cons_append, List.nil_append, Option.toList, Int.toNat, Int.reduceToNat, if_pos, if_neg, reduceIte, ↓reduceIte, Nat.reduceAdd, Nat.reduceEqDiff, Nat.reduceBEq, beq_self_eq_true, Bool.not_true, Bool.not_false, Bool.and_true, Bool.and_false, Bool.true_and, Bool.false_and, gI_sI, gI_sL, gI_sA, gI_sM, gL_sI, gL_sL, gL_sA, gL_sM, aI_sI, aI_sL, aI_sA, aI_sM, aL_sI, aL_sL, aL_sA, aL_sM, BisNumber_0, BisNumber_5, BisNumber_10, BisNumber_14, BisNumber_15, oi_0, oi_1, oi_4]; try dsimp only
          apply hB
          dsimp only [rgo, rfd, BisNumber, Nat.beq, rwp, rst, lv_args, rlk, rs1, rs2, rdl, rky, rct, rcs, rcd, rno, rsw, Value.category, List.filter, List.take, List.drop, List.reverse, List.reverseAux, List.cons_append, List.nil_append, Option.toList, Int.toNat, Int.reduceToNat, if_pos, if_neg, reduceIte, ↓reduceIte, Nat.reduceAdd, Nat.reduceEqDiff, Nat.reduceBEq, beq_self_eq_true, Bool.not_true, Bool.not_false, Bool.and_true, Bool.and_false, Bool.true_and, Bool.false_and, gI_sI, gI_sL, gI_sA, gI_sM, gL_sI, gL_sL, gL_sA, gL_sM, aI_sI, aI_sL, aI_sA, aI_sM, aL_sI, aL_sL, aL_sA, aL_sM, BisNumber_0, BisNumber_5, BisNumber_10, BisNumber_14, BisNumber_15, oi_0, oi_1, oi_4]; try dsimp only
          refine ⟨Or.inr rfl, ?_⟩
          exact ⟨_, rfl, Or.inr ⟨rfl, by lia, by lia⟩, rfl⟩
    next => exact hP.elim
theorem m_isNumber (l : Launch) : RMet l 1 72 P_isNumber Q_isNumber := by
  refine RMet.by BisNumber [] roisNumber okBisNumber ct0 ?_ b_isNumber
  · intro As σ hP
    unfold P_isNumber at hP
    split at hP
    next => exact Nat.le_of_ble_eq_true rfl
    next => exact hP.elim
set_option maxRecDepth 100000 in
theorem e_isNumber (l : Launch) : RMetE l 1 72 P_isNumber Q_isNumber := by
  refine RMetE.by BisNumber [] rfl rfl roisNumber okBisNumber ctE0 ?_ b_isNumber
  · intro As σ hP
    unfold P_isNumber at hP
    split at hP
    next => exact Nat.le_of_ble_eq_true rfl
    next => exact hP.elim
def P_widens : RP := fun As σ => match As with
  | [.int a, .int b] => True
  | _ => False
def Q_widens : RQ := fun As σ w τ => match As with
  | [.int a, .int b] => ∃ r : Int32, w = some (.int r) ∧ (r = 0 ∨ r = 1) ∧ τ = σ
  | _ => False
set_option maxRecDepth 100000 in
set_option maxHeartbeats 4000000 in
theorem b_widens : Bod Bwidens [] P_widens Q_widens := by
  · intro As σ hP G hB hW
    unfold P_widens at hP
    split at hP
    next a b => 
      unfold Q_widens at hB
      dsimp only at hB
      apply hB
      dsimp only [rgo, rfd, Bwidens, Nat.beq, rwp, rst, lv_args, rlk, rs1, rs2, rdl, rky, rct, rcs, rcd, rno, rsw, Value.category, List.filter, List.take, List.drop, List.reverse, List.reverseAux, List.cons_append, List.nil_append, Option.toList, Int.toNat, Int.reduceToNat, if_pos, if_neg, reduceIte, ↓reduceIte, Nat.reduceAdd, Nat.reduceEqDiff, Nat.reduceBEq, beq_self_eq_true, Bool.not_true, Bool.not_false, Bool.and_true, Bool.and_false, Bool.true_and, Bool.false_and, gI_sI, gI_sL, gI_sA, gI_sM, gL_sI, gL_sL, gL_sA, gL_sM, aI_sI, aI_sL, aI_sA, aI_sM, aL_sI, aL_sL, aL_sA, aL_sM, Bwidens_0, Bwidens_5, Bwidens_7, Bwidens_12, Bwidens_17, Bwidens_22, Bwidens_27, Bwidens_32, Bwidens_37, Bwidens_41, Bwidens_42, oi_0, oi_1, oi_2, oi_3, oi_4]; try dsimp only
      refine ⟨fun h1 => ?_, fun h1 => ?_⟩
      · apply hB
        dsimp only [rgo, rfd, Bwidens, Nat.beq, rwp, rst, lv_args, rlk, rs1, rs2, rdl, rky, rct, rcs, rcd, rno, rsw, Value.category, List.filter, List.take, List.drop, List.reverse, List.reverseAux, List.cons_append, List.nil_append, Option.toList, Int.toNat, Int.reduceToNat, if_pos, if_neg, reduceIte, ↓reduceIte, Nat.reduceAdd, Nat.reduceEqDiff, Nat.reduceBEq, beq_self_eq_true, Bool.not_true, Bool.not_false, Bool.and_true, Bool.and_false, Bool.true_and, Bool.false_and, gI_sI, gI_sL, gI_sA, gI_sM, gL_sI, gL_sL, gL_sA, gL_sM, aI_sI, aI_sL, aI_sA, aI_sM, aL_sI, aL_sL, aL_sA, aL_sM, Bwidens_0, Bwidens_5, Bwidens_7, Bwidens_12, Bwidens_17, Bwidens_22, Bwidens_27, Bwidens_32, Bwidens_37, Bwidens_41, Bwidens_42, oi_0, oi_1, oi_2, oi_3, oi_4]; try dsimp only
        refine ⟨fun h2 => ?_, fun h2 => ?_⟩
        · apply hB
          dsimp only [rgo, rfd, Bwidens, Nat.beq, rwp, rst, lv_args, rlk, rs1, rs2, rdl, rky, rct, rcs, rcd, rno, rsw, Value.category, List.filter, List.take, List.drop, List.reverse, List.reverseAux, List.cons_append, List.nil_append, Option.toList, Int.toNat, Int.reduceToNat, if_pos, if_neg, reduceIte, ↓reduceIte, Nat.reduceAdd, Nat.reduceEqDiff, Nat.reduceBEq, beq_self_eq_true, Bool.not_true, Bool.not_false, Bool.and_true, Bool.and_false, Bool.true_and, Bool.false_and, gI_sI, gI_sL, gI_sA, gI_sM, gL_sI, gL_sL, gL_sA, gL_sM, aI_sI, aI_sL, aI_sA, aI_sM, aL_sI, aL_sL, aL_sA, aL_sM, Bwidens_0, Bwidens_5, Bwidens_7, Bwidens_12, Bwidens_17, Bwidens_22, Bwidens_27, Bwidens_32, Bwidens_37, Bwidens_41, Bwidens_42, oi_0, oi_1, oi_2, oi_3, oi_4]; try dsimp only
          refine ⟨fun h3 => ?_, fun h3 => ?_⟩
          · apply hB
            dsimp only [rgo, rfd, Bwidens, Nat.beq, rwp, rst, lv_args, rlk, rs1, rs2, rdl, rky, rct, rcs, rcd, rno, rsw, Value.category, List.filter, List.take, List.drop, List.reverse, List.reverseAux, List.cons_append, List.nil_append, Option.toList, Int.toNat, Int.reduceToNat, if_pos, if_neg, reduceIte, ↓reduceIte, Nat.reduceAdd, Nat.reduceEqDiff, Nat.reduceBEq, beq_self_eq_true, Bool.not_true, Bool.not_false, Bool.and_true, Bool.and_false, Bool.true_and, Bool.false_and, gI_sI, gI_sL, gI_sA, gI_sM, gL_sI, gL_sL, gL_sA, gL_sM, aI_sI, aI_sL, aI_sA, aI_sM, aL_sI, aL_sL, aL_sA, aL_sM, Bwidens_0, Bwidens_5, Bwidens_7, Bwidens_12, Bwidens_17, Bwidens_22, Bwidens_27, Bwidens_32, Bwidens_37, Bwidens_41, Bwidens_42, oi_0, oi_1, oi_2, oi_3, oi_4]; try dsimp only
            apply hB
            dsimp only [rgo, rfd, Bwidens, Nat.beq, rwp, rst, lv_args, rlk, rs1, rs2, rdl, rky, rct, rcs, rcd, rno, rsw, Value.category, List.filter, List.take, List.drop, List.reverse, List.reverseAux, List.cons_append, List.nil_append, Option.toList, Int.toNat, Int.reduceToNat, if_pos, if_neg, reduceIte, ↓reduceIte, Nat.reduceAdd, Nat.reduceEqDiff, Nat.reduceBEq, beq_self_eq_true, Bool.not_true, Bool.not_false, Bool.and_true, Bool.and_false, Bool.true_and, Bool.false_and, gI_sI, gI_sL, gI_sA, gI_sM, gL_sI, gL_sL, gL_sA, gL_sM, aI_sI, aI_sL, aI_sA, aI_sM, aL_sI, aL_sL, aL_sA, aL_sM, Bwidens_0, Bwidens_5, Bwidens_7, Bwidens_12, Bwidens_17, Bwidens_22, Bwidens_27, Bwidens_32, Bwidens_37, Bwidens_41, Bwidens_42, oi_0, oi_1, oi_2, oi_3, oi_4]; try dsimp only
            refine ⟨Or.inl rfl, ?_⟩
            exact ⟨_, rfl, Or.inl rfl, rfl⟩
          · apply hB
            dsimp only [rgo, rfd, Bwidens, Nat.beq, rwp, rst, lv_args, rlk, rs1, rs2, rdl, rky, rct, rcs, rcd, rno, rsw, Value.category, List.filter, List.take, List.drop, List.reverse, List.reverseAux, List.cons_append, List.nil_append, Option.toList, Int.toNat, Int.reduceToNat, if_pos, if_neg, reduceIte, ↓reduceIte, Nat.reduceAdd, Nat.reduceEqDiff, Nat.reduceBEq, beq_self_eq_true, Bool.not_true, Bool.not_false, Bool.and_true, Bool.and_false, Bool.true_and, Bool.false_and, gI_sI, gI_sL, gI_sA, gI_sM, gL_sI, gL_sL, gL_sA, gL_sM, aI_sI, aI_sL, aI_sA, aI_sM, aL_sI, aL_sL, aL_sA, aL_sM, Bwidens_0, Bwidens_5, Bwidens_7, Bwidens_12, Bwidens_17, Bwidens_22, Bwidens_27, Bwidens_32, Bwidens_37, Bwidens_41, Bwidens_42, oi_0, oi_1, oi_2, oi_3, oi_4]; try dsimp only
            refine ⟨fun h4 => ?_, fun h4 => ?_⟩
            · apply hB
              dsimp only [rgo, rfd, Bwidens, Nat.beq, rwp, rst, lv_args, rlk, rs1, rs2, rdl, rky, rct, rcs, rcd, rno, rsw, Value.category, List.filter, List.take, List.drop, List.reverse, List.reverseAux, List.cons_append, List.nil_append, Option.toList, Int.toNat, Int.reduceToNat, if_pos, if_neg, reduceIte, ↓reduceIte, Nat.reduceAdd, Nat.reduceEqDiff, Nat.reduceBEq, beq_self_eq_true, Bool.not_true, Bool.not_false, Bool.and_true, Bool.and_false, Bool.true_and, Bool.false_and, gI_sI, gI_sL, gI_sA, gI_sM, gL_sI, gL_sL, gL_sA, gL_sM, aI_sI, aI_sL, aI_sA, aI_sM, aL_sI, aL_sL, aL_sA, aL_sM, Bwidens_0, Bwidens_5, Bwidens_7, Bwidens_12, Bwidens_17, Bwidens_22, Bwidens_27, Bwidens_32, Bwidens_37, Bwidens_41, Bwidens_42, oi_0, oi_1, oi_2, oi_3, oi_4]; try dsimp only
              apply hB
              dsimp only [rgo, rfd, Bwidens, Nat.beq, rwp, rst, lv_args, rlk, rs1, rs2, rdl, rky, rct, rcs, rcd, rno, rsw, Value.category, List.filter, List.take, List.drop, List.reverse, List.reverseAux, List.cons_append, List.nil_append, Option.toList, Int.toNat, Int.reduceToNat, if_pos, if_neg, reduceIte, ↓reduceIte, Nat.reduceAdd, Nat.reduceEqDiff, Nat.reduceBEq, beq_self_eq_true, Bool.not_true, Bool.not_false, Bool.and_true, Bool.and_false, Bool.true_and, Bool.false_and, gI_sI, gI_sL, gI_sA, gI_sM, gL_sI, gL_sL, gL_sA, gL_sM, aI_sI, aI_sL, aI_sA, aI_sM, aL_sI, aL_sL, aL_sA, aL_sM, Bwidens_0, Bwidens_5, Bwidens_7, Bwidens_12, Bwidens_17, Bwidens_22, Bwidens_27, Bwidens_32, Bwidens_37, Bwidens_41, Bwidens_42, oi_0, oi_1, oi_2, oi_3, oi_4]; try dsimp only
              refine ⟨Or.inl rfl, ?_⟩
              exact ⟨_, rfl, Or.inl rfl, rfl⟩
            · apply hB
              dsimp only [rgo, rfd, Bwidens, Nat.beq, rwp, rst, lv_args, rlk, rs1, rs2, rdl, rky, rct, rcs, rcd, rno, rsw, Value.category, List.filter, List.take, List.drop, List.reverse, List.reverseAux, List.cons_append, List.nil_append, Option.toList, Int.toNat, Int.reduceToNat, if_pos, if_neg, reduceIte, ↓reduceIte, Nat.reduceAdd, Nat.reduceEqDiff, Nat.reduceBEq, beq_self_eq_true, Bool.not_true, Bool.not_false, Bool.and_true, Bool.and_false, Bool.true_and, Bool.false_and, gI_sI, gI_sL, gI_sA, gI_sM, gL_sI, gL_sL, gL_sA, gL_sM, aI_sI, aI_sL, aI_sA, aI_sM, aL_sI, aL_sL, aL_sA, aL_sM, Bwidens_0, Bwidens_5, Bwidens_7, Bwidens_12, Bwidens_17, Bwidens_22, Bwidens_27, Bwidens_32, Bwidens_37, Bwidens_41, Bwidens_42, oi_0, oi_1, oi_2, oi_3, oi_4]; try dsimp only
              refine ⟨fun h5 => ?_, fun h5 => ?_⟩
              · apply hB
                dsimp only [rgo, rfd, Bwidens, Nat.beq, rwp, rst, lv_args, rlk, rs1, rs2, rdl, rky, rct, rcs, rcd, rno, rsw, Value.category, List.filter, List.take, List.drop, List.reverse, List.reverseAux, List.cons_append, List.nil_append, Option.toList, Int.toNat, Int.reduceToNat, if_pos, if_neg, reduceIte, ↓reduceIte, Nat.reduceAdd, Nat.reduceEqDiff, Nat.reduceBEq, beq_self_eq_true, Bool.not_true, Bool.not_false, Bool.and_true, Bool.and_false, Bool.true_and, Bool.false_and, gI_sI, gI_sL, gI_sA, gI_sM, gL_sI, gL_sL, gL_sA, gL_sM, aI_sI, aI_sL, aI_sA, aI_sM, aL_sI, aL_sL, aL_sA, aL_sM, Bwidens_0, Bwidens_5, Bwidens_7, Bwidens_12, Bwidens_17, Bwidens_22, Bwidens_27, Bwidens_32, Bwidens_37, Bwidens_41, Bwidens_42, oi_0, oi_1, oi_2, oi_3, oi_4]; try dsimp only
                apply hB
                dsimp only [rgo, rfd, Bwidens, Nat.beq, rwp, rst, lv_args, rlk, rs1, rs2, rdl, rky, rct, rcs, rcd, rno, rsw, Value.category, List.filter, List.take, List.drop, List.reverse, List.reverseAux, List.cons_append, List.nil_append, Option.toList, Int.toNat, Int.reduceToNat, if_pos, if_neg, reduceIte, ↓reduceIte, Nat.reduceAdd, Nat.reduceEqDiff, Nat.reduceBEq, beq_self_eq_true, Bool.not_true, Bool.not_false, Bool.and_true, Bool.and_false, Bool.true_and, Bool.false_and, gI_sI, gI_sL, gI_sA, gI_sM, gL_sI, gL_sL, gL_sA, gL_sM, aI_sI, aI_sL, aI_sA, aI_sM, aL_sI, aL_sL, aL_sA, aL_sM, Bwidens_0, Bwidens_5, Bwidens_7, Bwidens_12, Bwidens_17, Bwidens_22, Bwidens_27, Bwidens_32, Bwidens_37, Bwidens_41, Bwidens_42, oi_0, oi_1, oi_2, oi_3, oi_4]; try dsimp only
                refine ⟨Or.inl rfl, ?_⟩
                exact ⟨_, rfl, Or.inl rfl, rfl⟩
              · apply hB
                dsimp only [rgo, rfd, Bwidens, Nat.beq, rwp, rst, lv_args, rlk, rs1, rs2, rdl, rky, rct, rcs, rcd, rno, rsw, Value.category, List.filter, List.take, List.drop, List.reverse, List.reverseAux, List.cons_append, List.nil_append, Option.toList, Int.toNat, Int.reduceToNat, if_pos, if_neg, reduceIte, ↓reduceIte, Nat.reduceAdd, Nat.reduceEqDiff, Nat.reduceBEq, beq_self_eq_true, Bool.not_true, Bool.not_false, Bool.and_true, Bool.and_false, Bool.true_and, Bool.false_and, gI_sI, gI_sL, gI_sA, gI_sM, gL_sI, gL_sL, gL_sA, gL_sM, aI_sI, aI_sL, aI_sA, aI_sM, aL_sI, aL_sL, aL_sA, aL_sM, Bwidens_0, Bwidens_5, Bwidens_7, Bwidens_12, Bwidens_17, Bwidens_22, Bwidens_27, Bwidens_32, Bwidens_37, Bwidens_41, Bwidens_42, oi_0, oi_1, oi_2, oi_3, oi_4]; try dsimp only
                apply hB
                dsimp only [rgo, rfd, Bwidens, Nat.beq, rwp, rst, lv_args, rlk, rs1, rs2, rdl, rky, rct, rcs, rcd, rno, rsw, Value.category, List.filter, List.take, List.drop, List.reverse, List.reverseAux, List.cons_append, List.nil_append, Option.toList, Int.toNat, Int.reduceToNat, if_pos, if_neg, reduceIte, ↓reduceIte, Nat.reduceAdd, Nat.reduceEqDiff, Nat.reduceBEq, beq_self_eq_true, Bool.not_true, Bool.not_false, Bool.and_true, Bool.and_false, Bool.true_and, Bool.false_and, gI_sI, gI_sL, gI_sA, gI_sM, gL_sI, gL_sL, gL_sA, gL_sM, aI_sI, aI_sL, aI_sA, aI_sM, aL_sI, aL_sL, aL_sA, aL_sM, Bwidens_0, Bwidens_5, Bwidens_7, Bwidens_12, Bwidens_17, Bwidens_22, Bwidens_27, Bwidens_32, Bwidens_37, Bwidens_41, Bwidens_42, oi_0, oi_1, oi_2, oi_3, oi_4]; try dsimp only
                refine ⟨Or.inr rfl, ?_⟩
                exact ⟨_, rfl, Or.inr rfl, rfl⟩
        · apply hB
          dsimp only [rgo, rfd, Bwidens, Nat.beq, rwp, rst, lv_args, rlk, rs1, rs2, rdl, rky, rct, rcs, rcd, rno, rsw, Value.category, List.filter, List.take, List.drop, List.reverse, List.reverseAux, List.cons_append, List.nil_append, Option.toList, Int.toNat, Int.reduceToNat, if_pos, if_neg, reduceIte, ↓reduceIte, Nat.reduceAdd, Nat.reduceEqDiff, Nat.reduceBEq, beq_self_eq_true, Bool.not_true, Bool.not_false, Bool.and_true, Bool.and_false, Bool.true_and, Bool.false_and, gI_sI, gI_sL, gI_sA, gI_sM, gL_sI, gL_sL, gL_sA, gL_sM, aI_sI, aI_sL, aI_sA, aI_sM, aL_sI, aL_sL, aL_sA, aL_sM, Bwidens_0, Bwidens_5, Bwidens_7, Bwidens_12, Bwidens_17, Bwidens_22, Bwidens_27, Bwidens_32, Bwidens_37, Bwidens_41, Bwidens_42, oi_0, oi_1, oi_2, oi_3, oi_4]; try dsimp only
          refine ⟨fun h6 => ?_, fun h6 => ?_⟩
          · apply hB
            dsimp only [rgo, rfd, Bwidens, Nat.beq, rwp, rst, lv_args, rlk, rs1, rs2, rdl, rky, rct, rcs, rcd, rno, rsw, Value.category, List.filter, List.take, List.drop, List.reverse, List.reverseAux, List.cons_append, List.nil_append, Option.toList, Int.toNat, Int.reduceToNat, if_pos, if_neg, reduceIte, ↓reduceIte, Nat.reduceAdd, Nat.reduceEqDiff, Nat.reduceBEq, beq_self_eq_true, Bool.not_true, Bool.not_false, Bool.and_true, Bool.and_false, Bool.true_and, Bool.false_and, gI_sI, gI_sL, gI_sA, gI_sM, gL_sI, gL_sL, gL_sA, gL_sM, aI_sI, aI_sL, aI_sA, aI_sM, aL_sI, aL_sL, aL_sA, aL_sM, Bwidens_0, Bwidens_5, Bwidens_7, Bwidens_12, Bwidens_17, Bwidens_22, Bwidens_27, Bwidens_32, Bwidens_37, Bwidens_41, Bwidens_42, oi_0, oi_1, oi_2, oi_3, oi_4]; try dsimp only
            apply hB
            dsimp only [rgo, rfd, Bwidens, Nat.beq, rwp, rst, lv_args, rlk, rs1, rs2, rdl, rky, rct, rcs, rcd, rno, rsw, Value.category, List.filter, List.take, List.drop, List.reverse, List.reverseAux, List.cons_append, List.nil_append, Option.toList, Int.toNat, Int.reduceToNat, if_pos, if_neg, reduceIte, ↓reduceIte, Nat.reduceAdd, Nat.reduceEqDiff, Nat.reduceBEq, beq_self_eq_true, Bool.not_true, Bool.not_false, Bool.and_true, Bool.and_false, Bool.true_and, Bool.false_and, gI_sI, gI_sL, gI_sA, gI_sM, gL_sI, gL_sL, gL_sA, gL_sM, aI_sI, aI_sL, aI_sA, aI_sM, aL_sI, aL_sL, aL_sA, aL_sM, Bwidens_0, Bwidens_5, Bwidens_7, Bwidens_12, Bwidens_17, Bwidens_22, Bwidens_27, Bwidens_32, Bwidens_37, Bwidens_41, Bwidens_42, oi_0, oi_1, oi_2, oi_3, oi_4]; try dsimp only
            refine ⟨Or.inr rfl, ?_⟩
            exact ⟨_, rfl, Or.inr rfl, rfl⟩
          · apply hB
            dsimp only [rgo, rfd, Bwidens, Nat.beq, rwp, rst, lv_args, rlk, rs1, rs2, rdl, rky, rct, rcs, rcd, rno, rsw, Value.category, List.filter, List.take, List.drop, List.reverse, List.reverseAux, List.cons_append, List.nil_append, Option.toList, Int.toNat, Int.reduceToNat, if_pos, if_neg, reduceIte, ↓reduceIte, Nat.reduceAdd, Nat.reduceEqDiff, Nat.reduceBEq, beq_self_eq_true, Bool.not_true, Bool.not_false, Bool.and_true, Bool.and_false, Bool.true_and, Bool.false_and, gI_sI, gI_sL, gI_sA, gI_sM, gL_sI, gL_sL, gL_sA, gL_sM, aI_sI, aI_sL, aI_sA, aI_sM, aL_sI, aL_sL, aL_sA, aL_sM, Bwidens_0, Bwidens_5, Bwidens_7, Bwidens_12, Bwidens_17, Bwidens_22, Bwidens_27, Bwidens_32, Bwidens_37, Bwidens_41, Bwidens_42, oi_0, oi_1, oi_2, oi_3, oi_4]; try dsimp only
            refine ⟨fun h7 => ?_, fun h7 => ?_⟩
            · apply hB
              dsimp only [rgo, rfd, Bwidens, Nat.beq, rwp, rst, lv_args, rlk, rs1, rs2, rdl, rky, rct, rcs, rcd, rno, rsw, Value.category, List.filter, List.take, List.drop, List.reverse, List.reverseAux, List.cons_append, List.nil_append, Option.toList, Int.toNat, Int.reduceToNat, if_pos, if_neg, reduceIte, ↓reduceIte, Nat.reduceAdd, Nat.reduceEqDiff, Nat.reduceBEq, beq_self_eq_true, Bool.not_true, Bool.not_false, Bool.and_true, Bool.and_false, Bool.true_and, Bool.false_and, gI_sI, gI_sL, gI_sA, gI_sM, gL_sI, gL_sL, gL_sA, gL_sM, aI_sI, aI_sL, aI_sA, aI_sM, aL_sI, aL_sL, aL_sA, aL_sM, Bwidens_0, Bwidens_5, Bwidens_7, Bwidens_12, Bwidens_17, Bwidens_22, Bwidens_27, Bwidens_32, Bwidens_37, Bwidens_41, Bwidens_42, oi_0, oi_1, oi_2, oi_3, oi_4]; try dsimp only
              apply hB
              dsimp only [rgo, rfd, Bwidens, Nat.beq, rwp, rst, lv_args, rlk, rs1, rs2, rdl, rky, rct, rcs, rcd, rno, rsw, Value.category, List.filter, List.take, List.drop, List.reverse, List.reverseAux, List.cons_append, List.nil_append, Option.toList, Int.toNat, Int.reduceToNat, if_pos, if_neg, reduceIte, ↓reduceIte, Nat.reduceAdd, Nat.reduceEqDiff, Nat.reduceBEq, beq_self_eq_true, Bool.not_true, Bool.not_false, Bool.and_true, Bool.and_false, Bool.true_and, Bool.false_and, gI_sI, gI_sL, gI_sA, gI_sM, gL_sI, gL_sL, gL_sA, gL_sM, aI_sI, aI_sL, aI_sA, aI_sM, aL_sI, aL_sL, aL_sA, aL_sM, Bwidens_0, Bwidens_5, Bwidens_7, Bwidens_12, Bwidens_17, Bwidens_22, Bwidens_27, Bwidens_32, Bwidens_37, Bwidens_41, Bwidens_42, oi_0, oi_1, oi_2, oi_3, oi_4]; try dsimp only
              refine ⟨Or.inr rfl, ?_⟩
              exact ⟨_, rfl, Or.inr rfl, rfl⟩
            · apply hB
              dsimp only [rgo, rfd, Bwidens, Nat.beq, rwp, rst, lv_args, rlk, rs1, rs2, rdl, rky, rct, rcs, rcd, rno, rsw, Value.category, List.filter, List.take, List.drop, List.reverse, List.reverseAux, List.cons_append, List.nil_append, Option.toList, Int.toNat, Int.reduceToNat, if_pos, if_neg, reduceIte, ↓reduceIte, Nat.reduceAdd, Nat.reduceEqDiff, Nat.reduceBEq, beq_self_eq_true, Bool.not_true, Bool.not_false, Bool.and_true, Bool.and_false, Bool.true_and, Bool.false_and, gI_sI, gI_sL, gI_sA, gI_sM, gL_sI, gL_sL, gL_sA, gL_sM, aI_sI, aI_sL, aI_sA, aI_sM, aL_sI, aL_sL, aL_sA, aL_sM, Bwidens_0, Bwidens_5, Bwidens_7, Bwidens_12, Bwidens_17, Bwidens_22, Bwidens_27, Bwidens_32, Bwidens_37, Bwidens_41, Bwidens_42, oi_0, oi_1, oi_2, oi_3, oi_4]; try dsimp only
              refine ⟨fun h8 => ?_, fun h8 => ?_⟩
              · apply hB
                dsimp only [rgo, rfd, Bwidens, Nat.beq, rwp, rst, lv_args, rlk, rs1, rs2, rdl, rky, rct, rcs, rcd, rno, rsw, Value.category, List.filter, List.take, List.drop, List.reverse, List.reverseAux, List.cons_append, List.nil_append, Option.toList, Int.toNat, Int.reduceToNat, if_pos, if_neg, reduceIte, ↓reduceIte, Nat.reduceAdd, Nat.reduceEqDiff, Nat.reduceBEq, beq_self_eq_true, Bool.not_true, Bool.not_false, Bool.and_true, Bool.and_false, Bool.true_and, Bool.false_and, gI_sI, gI_sL, gI_sA, gI_sM, gL_sI, gL_sL, gL_sA, gL_sM, aI_sI, aI_sL, aI_sA, aI_sM, aL_sI, aL_sL, aL_sA, aL_sM, Bwidens_0, Bwidens_5, Bwidens_7, Bwidens_12, Bwidens_17, Bwidens_22, Bwidens_27, Bwidens_32, Bwidens_37, Bwidens_41, Bwidens_42, oi_0, oi_1, oi_2, oi_3, oi_4]; try dsimp only
                apply hB
                dsimp only [rgo, rfd, Bwidens, Nat.beq, rwp, rst, lv_args, rlk, rs1, rs2, rdl, rky, rct, rcs, rcd, rno, rsw, Value.category, List.filter, List.take, List.drop, List.reverse, List.reverseAux, List.cons_append, List.nil_append, Option.toList, Int.toNat, Int.reduceToNat, if_pos, if_neg, reduceIte, ↓reduceIte, Nat.reduceAdd, Nat.reduceEqDiff, Nat.reduceBEq, beq_self_eq_true, Bool.not_true, Bool.not_false, Bool.and_true, Bool.and_false, Bool.true_and, Bool.false_and, gI_sI, gI_sL, gI_sA, gI_sM, gL_sI, gL_sL, gL_sA, gL_sM, aI_sI, aI_sL, aI_sA, aI_sM, aL_sI, aL_sL, aL_sA, aL_sM, Bwidens_0, Bwidens_5, Bwidens_7, Bwidens_12, Bwidens_17, Bwidens_22, Bwidens_27, Bwidens_32, Bwidens_37, Bwidens_41, Bwidens_42, oi_0, oi_1, oi_2, oi_3, oi_4]; try dsimp only
                refine ⟨Or.inl rfl, ?_⟩
                exact ⟨_, rfl, Or.inl rfl, rfl⟩
              · apply hB
                dsimp only [rgo, rfd, Bwidens, Nat.beq, rwp, rst, lv_args, rlk, rs1, rs2, rdl, rky, rct, rcs, rcd, rno, rsw, Value.category, List.filter, List.take, List.drop, List.reverse, List.reverseAux, List.cons_append, List.nil_append, Option.toList, Int.toNat, Int.reduceToNat, if_pos, if_neg, reduceIte, ↓reduceIte, Nat.reduceAdd, Nat.reduceEqDiff, Nat.reduceBEq, beq_self_eq_true, Bool.not_true, Bool.not_false, Bool.and_true, Bool.and_false, Bool.true_and, Bool.false_and, gI_sI, gI_sL, gI_sA, gI_sM, gL_sI, gL_sL, gL_sA, gL_sM, aI_sI, aI_sL, aI_sA, aI_sM, aL_sI, aL_sL, aL_sA, aL_sM, Bwidens_0, Bwidens_5, Bwidens_7, Bwidens_12, Bwidens_17, Bwidens_22, Bwidens_27, Bwidens_32, Bwidens_37, Bwidens_41, Bwidens_42, oi_0, oi_1, oi_2, oi_3, oi_4]; try dsimp only
                refine ⟨fun h9 => ?_, fun h9 => ?_⟩
                · apply hB
                  dsimp only [rgo, rfd, Bwidens, Nat.beq, rwp, rst, lv_args, rlk, rs1, rs2, rdl, rky, rct, rcs, rcd, rno, rsw, Value.category, List.filter, List.take, List.drop, List.reverse, List.reverseAux, List.cons_append, List.nil_append, Option.toList, Int.toNat, Int.reduceToNat, if_pos, if_neg, reduceIte, ↓reduceIte, Nat.reduceAdd, Nat.reduceEqDiff, Nat.reduceBEq, beq_self_eq_true, Bool.not_true, Bool.not_false, Bool.and_true, Bool.and_false, Bool.true_and, Bool.false_and, gI_sI, gI_sL, gI_sA, gI_sM, gL_sI, gL_sL, gL_sA, gL_sM, aI_sI, aI_sL, aI_sA, aI_sM, aL_sI, aL_sL, aL_sA, aL_sM, Bwidens_0, Bwidens_5, Bwidens_7, Bwidens_12, Bwidens_17, Bwidens_22, Bwidens_27, Bwidens_32, Bwidens_37, Bwidens_41, Bwidens_42, oi_0, oi_1, oi_2, oi_3, oi_4]; try dsimp only
                  apply hB
                  dsimp only [rgo, rfd, Bwidens, Nat.beq, rwp, rst, lv_args, rlk, rs1, rs2, rdl, rky, rct, rcs, rcd, rno, rsw, Value.category, List.filter, List.take, List.drop, List.reverse, List.reverseAux, List.cons_append, List.nil_append, Option.toList, Int.toNat, Int.reduceToNat, if_pos, if_neg, reduceIte, ↓reduceIte, Nat.reduceAdd, Nat.reduceEqDiff, Nat.reduceBEq, beq_self_eq_true, Bool.not_true, Bool.not_false, Bool.and_true, Bool.and_false, Bool.true_and, Bool.false_and, gI_sI, gI_sL, gI_sA, gI_sM, gL_sI, gL_sL, gL_sA, gL_sM, aI_sI, aI_sL, aI_sA, aI_sM, aL_sI, aL_sL, aL_sA, aL_sM, Bwidens_0, Bwidens_5, Bwidens_7, Bwidens_12, Bwidens_17, Bwidens_22, Bwidens_27, Bwidens_32, Bwidens_37, Bwidens_41, Bwidens_42, oi_0, oi_1, oi_2, oi_3, oi_4]; try dsimp only
                  refine ⟨Or.inl rfl, ?_⟩
                  exact ⟨_, rfl, Or.inl rfl, rfl⟩
                · apply hB
                  dsimp only [rgo, rfd, Bwidens, Nat.beq, rwp, rst, lv_args, rlk, rs1, rs2, rdl, rky, rct, rcs, rcd, rno, rsw, Value.category, List.filter, List.take, List.drop, List.reverse, List.reverseAux, List.cons_append, List.nil_append, Option.toList, Int.toNat, Int.reduceToNat, if_pos, if_neg, reduceIte, ↓reduceIte, Nat.reduceAdd, Nat.reduceEqDiff, Nat.reduceBEq, beq_self_eq_true, Bool.not_true, Bool.not_false, Bool.and_true, Bool.and_false, Bool.true_and, Bool.false_and, gI_sI, gI_sL, gI_sA, gI_sM, gL_sI, gL_sL, gL_sA, gL_sM, aI_sI, aI_sL, aI_sA, aI_sM, aL_sI, aL_sL, aL_sA, aL_sM, Bwidens_0, Bwidens_5, Bwidens_7, Bwidens_12, Bwidens_17, Bwidens_22, Bwidens_27, Bwidens_32, Bwidens_37, Bwidens_41, Bwidens_42, oi_0, oi_1, oi_2, oi_3, oi_4]; try dsimp only
                  refine ⟨fun h10 => ?_, fun h10 => ?_⟩
                  · apply hB
                    dsimp only [rgo, rfd, Bwidens, Nat.beq, rwp, rst, lv_args, rlk, rs1, rs2, rdl, rky, rct, rcs, rcd, rno, rsw, Value.category, List.filter, List.take, List.drop, List.reverse, List.reverseAux, List.cons_append, List.nil_append, Option.toList, Int.toNat, Int.reduceToNat, if_pos, if_neg, reduceIte, ↓reduceIte, Nat.reduceAdd, Nat.reduceEqDiff, Nat.reduceBEq, beq_self_eq_true, Bool.not_true, Bool.not_false, Bool.and_true, Bool.and_false, Bool.true_and, Bool.false_and, gI_sI, gI_sL, gI_sA, gI_sM, gL_sI, gL_sL, gL_sA, gL_sM, aI_sI, aI_sL, aI_sA, aI_sM, aL_sI, aL_sL, aL_sA, aL_sM, Bwidens_0, Bwidens_5, Bwidens_7, Bwidens_12, Bwidens_17, Bwidens_22, Bwidens_27, Bwidens_32, Bwidens_37, Bwidens_41, Bwidens_42, oi_0, oi_1, oi_2, oi_3, oi_4]; try dsimp only
                    apply hB
                    dsimp only [rgo, rfd, Bwidens, Nat.beq, rwp, rst, lv_args, rlk, rs1, rs2, rdl, rky, rct, rcs, rcd, rno, rsw, Value.category, List.filter, List.take, List.drop, List.reverse, List.reverseAux, List.cons_append, List.nil_append, Option.toList, Int.toNat, Int.reduceToNat, if_pos, if_neg, reduceIte, ↓reduceIte, Nat.reduceAdd, Nat.reduceEqDiff, Nat.reduceBEq, beq_self_eq_true, Bool.not_true, Bool.not_false, Bool.and_true, Bool.and_false, Bool.true_and, Bool.false_and, gI_sI, gI_sL, gI_sA, gI_sM, gL_sI, gL_sL, gL_sA, gL_sM, aI_sI, aI_sL, aI_sA, aI_sM, aL_sI, aL_sL, aL_sA, aL_sM, Bwidens_0, Bwidens_5, Bwidens_7, Bwidens_12, Bwidens_17, Bwidens_22, Bwidens_27, Bwidens_32, Bwidens_37, Bwidens_41, Bwidens_42, oi_0, oi_1, oi_2, oi_3, oi_4]; try dsimp only
                    refine ⟨Or.inl rfl, ?_⟩
                    exact ⟨_, rfl, Or.inl rfl, rfl⟩
                  · apply hB
                    dsimp only [rgo, rfd, Bwidens, Nat.beq, rwp, rst, lv_args, rlk, rs1, rs2, rdl, rky, rct, rcs, rcd, rno, rsw, Value.category, List.filter, List.take, List.drop, List.reverse, List.reverseAux, List.cons_append, List.nil_append, Option.toList, Int.toNat, Int.reduceToNat, if_pos, if_neg, reduceIte, ↓reduceIte, Nat.reduceAdd, Nat.reduceEqDiff, Nat.reduceBEq, beq_self_eq_true, Bool.not_true, Bool.not_false, Bool.and_true, Bool.and_false, Bool.true_and, Bool.false_and, gI_sI, gI_sL, gI_sA, gI_sM, gL_sI, gL_sL, gL_sA, gL_sM, aI_sI, aI_sL, aI_sA, aI_sM, aL_sI, aL_sL, aL_sA, aL_sM, Bwidens_0, Bwidens_5, Bwidens_7, Bwidens_12, Bwidens_17, Bwidens_22, Bwidens_27, Bwidens_32, Bwidens_37, Bwidens_41, Bwidens_42, oi_0, oi_1, oi_2, oi_3, oi_4]; try dsimp only
                    apply hB
                    dsimp only [rgo, rfd, Bwidens, Nat.beq, rwp, rst, lv_args, rlk, rs1, rs2, rdl, rky, rct, rcs, rcd, rno, rsw, Value.category, List.filter, List.take, List.drop, List.reverse, List.reverseAux, List.cons_append, List.nil_append, Option.toList, Int.toNat, Int.reduceToNat, if_pos, if_neg, reduceIte, ↓reduceIte, Nat.reduceAdd, Nat.reduceEqDiff, Nat.reduceBEq, beq_self_eq_true, Bool.not_true, Bool.not_false, Bool.and_true, Bool.and_false, Bool.true_and, Bool.false_and, gI_sI, gI_sL, gI_sA, gI_sM, gL_sI, gL_sL, gL_sA, gL_sM, aI_sI, aI_sL, aI_sA, aI_sM, aL_sI, aL_sL, aL_sA, aL_sM, Bwidens_0, Bwidens_5, Bwidens_7, Bwidens_12, Bwidens_17, Bwidens_22, Bwidens_27, Bwidens_32, Bwidens_37, Bwidens_41, Bwidens_42, oi_0, oi_1, oi_2, oi_3, oi_4]; try dsimp only
                    refine ⟨Or.inr rfl, ?_⟩
                    exact ⟨_, rfl, Or.inr rfl, rfl⟩
      · apply hB
        dsimp only [rgo, rfd, Bwidens, Nat.beq, rwp, rst, lv_args, rlk, rs1, rs2, rdl, rky, rct, rcs, rcd, rno, rsw, Value.category, List.filter, List.take, List.drop, List.reverse, List.reverseAux, List.cons_append, List.nil_append, Option.toList, Int.toNat, Int.reduceToNat, if_pos, if_neg, reduceIte, ↓reduceIte, Nat.reduceAdd, Nat.reduceEqDiff, Nat.reduceBEq, beq_self_eq_true, Bool.not_true, Bool.not_false, Bool.and_true, Bool.and_false, Bool.true_and, Bool.false_and, gI_sI, gI_sL, gI_sA, gI_sM, gL_sI, gL_sL, gL_sA, gL_sM, aI_sI, aI_sL, aI_sA, aI_sM, aL_sI, aL_sL, aL_sA, aL_sM, Bwidens_0, Bwidens_5, Bwidens_7, Bwidens_12, Bwidens_17, Bwidens_22, Bwidens_27, Bwidens_32, Bwidens_37, Bwidens_41, Bwidens_42, oi_0, oi_1, oi_2, oi_3, oi_4]; try dsimp only
        refine ⟨Or.inr rfl, ?_⟩
        exact ⟨_, rfl, Or.inr rfl, rfl⟩
    next => exact hP.elim
theorem m_widens (l : Launch) : RMet l 1 73 P_widens Q_widens := by
  refine RMet.by Bwidens [] rowidens okBwidens ct0 ?_ b_widens
  · intro As σ hP
    unfold P_widens at hP
    split at hP
    next => exact Nat.le_of_ble_eq_true rfl
    next => exact hP.elim
set_option maxRecDepth 100000 in
theorem e_widens (l : Launch) : RMetE l 1 73 P_widens Q_widens := by
  refine RMetE.by Bwidens [] rfl rfl rowidens okBwidens ctE0 ?_ b_widens
  · intro As σ hP
    unfold P_widens at hP
    split at hP
    next => exact Nat.le_of_ble_eq_true rfl
    next => exact hP.elim
def P_holdsValue : RP := fun As σ => match As with
  | [.int ty, .long v] => True
  | _ => False
def Q_holdsValue : RQ := fun As σ w τ => match As with
  | [.int ty, .long v] => ∃ r : Int32, w = some (.int r) ∧ (r = 0 ∨ r = 1) ∧ τ = σ
  | _ => False
set_option maxRecDepth 100000 in
set_option maxHeartbeats 4000000 in
theorem b_holdsValue : Bod BholdsValue [] P_holdsValue Q_holdsValue := by
  · intro As σ hP G hB hW
    unfold P_holdsValue at hP
    split at hP
    next ty v => 
      unfold Q_holdsValue at hB
      dsimp only at hB
      apply hB
      dsimp only [rgo, rfd, BholdsValue, Nat.beq, rwp, rst, lv_args, rlk, rs1, rs2, rdl, rky, rct, rcs, rcd, rno, rsw, Value.category, List.filter, List.take, List.drop, List.reverse, List.reverseAux, List.cons_append, List.nil_append, Option.toList, Int.toNat, Int.reduceToNat, if_pos, if_neg, reduceIte, ↓reduceIte, Nat.reduceAdd, Nat.reduceEqDiff, Nat.reduceBEq, beq_self_eq_true, Bool.not_true, Bool.not_false, Bool.and_true, Bool.and_false, Bool.true_and, Bool.false_and, gI_sI, gI_sL, gI_sA, gI_sM, gL_sI, gL_sL, gL_sA, gL_sM, aI_sI, aI_sL, aI_sA, aI_sM, aL_sI, aL_sL, aL_sA, aL_sM, BholdsValue_0, BholdsValue_5, BholdsValue_13, BholdsValue_21, BholdsValue_25, BholdsValue_29, BholdsValue_34, BholdsValue_40, BholdsValue_48, BholdsValue_52, BholdsValue_56, BholdsValue_57, oi_0, oi_1, oi_2]; try dsimp only
      refine ⟨fun h1 => ?_, fun h1 => ?_⟩
      · apply hB
        dsimp only [rgo, rfd, BholdsValue, Nat.beq, rwp, rst, lv_args, rlk, rs1, rs2, rdl, rky, rct, rcs, rcd, rno, rsw, Value.category, List.filter, List.take, List.drop, List.reverse, List.reverseAux, List.cons_append, List.nil_append, Option.toList, Int.toNat, Int.reduceToNat, if_pos, if_neg, reduceIte, ↓reduceIte, Nat.reduceAdd, Nat.reduceEqDiff, Nat.reduceBEq, beq_self_eq_true, Bool.not_true, Bool.not_false, Bool.and_true, Bool.and_false, Bool.true_and, Bool.false_and, gI_sI, gI_sL, gI_sA, gI_sM, gL_sI, gL_sL, gL_sA, gL_sM, aI_sI, aI_sL, aI_sA, aI_sM, aL_sI, aL_sL, aL_sA, aL_sM, BholdsValue_0, BholdsValue_5, BholdsValue_13, BholdsValue_21, BholdsValue_25, BholdsValue_29, BholdsValue_34, BholdsValue_40, BholdsValue_48, BholdsValue_52, BholdsValue_56, BholdsValue_57, oi_0, oi_1, oi_2]; try dsimp only
        refine ⟨fun h2 => ?_, fun h2 => ?_⟩
        · apply hB
          dsimp only [rgo, rfd, BholdsValue, Nat.beq, rwp, rst, lv_args, rlk, rs1, rs2, rdl, rky, rct, rcs, rcd, rno, rsw, Value.category, List.filter, List.take, List.drop, List.reverse, List.reverseAux, List.cons_append, List.nil_append, Option.toList, Int.toNat, Int.reduceToNat, if_pos, if_neg, reduceIte, ↓reduceIte, Nat.reduceAdd, Nat.reduceEqDiff, Nat.reduceBEq, beq_self_eq_true, Bool.not_true, Bool.not_false, Bool.and_true, Bool.and_false, Bool.true_and, Bool.false_and, gI_sI, gI_sL, gI_sA, gI_sM, gL_sI, gL_sL, gL_sA, gL_sM, aI_sI, aI_sL, aI_sA, aI_sM, aL_sI, aL_sL, aL_sA, aL_sM, BholdsValue_0, BholdsValue_5, BholdsValue_13, BholdsValue_21, BholdsValue_25, BholdsValue_29, BholdsValue_34, BholdsValue_40, BholdsValue_48, BholdsValue_52, BholdsValue_56, BholdsValue_57, oi_0, oi_1, oi_2]; try dsimp only
          apply hB
          dsimp only [rgo, rfd, BholdsValue, Nat.beq, rwp, rst, lv_args, rlk, rs1, rs2, rdl, rky, rct, rcs, rcd, rno, rsw, Value.category, List.filter, List.take, List.drop, List.reverse, List.reverseAux, List.cons_append, List.nil_append, Option.toList, Int.toNat, Int.reduceToNat, if_pos, if_neg, reduceIte, ↓reduceIte, Nat.reduceAdd, Nat.reduceEqDiff, Nat.reduceBEq, beq_self_eq_true, Bool.not_true, Bool.not_false, Bool.and_true, Bool.and_false, Bool.true_and, Bool.false_and, gI_sI, gI_sL, gI_sA, gI_sM, gL_sI, gL_sL, gL_sA, gL_sM, aI_sI, aI_sL, aI_sA, aI_sM, aL_sI, aL_sL, aL_sA, aL_sM, BholdsValue_0, BholdsValue_5, BholdsValue_13, BholdsValue_21, BholdsValue_25, BholdsValue_29, BholdsValue_34, BholdsValue_40, BholdsValue_48, BholdsValue_52, BholdsValue_56, BholdsValue_57, oi_0, oi_1, oi_2]; try dsimp only
          refine ⟨Or.inr rfl, ?_⟩
          exact ⟨_, rfl, Or.inr rfl, rfl⟩
        · apply hB
          dsimp only [rgo, rfd, BholdsValue, Nat.beq, rwp, rst, lv_args, rlk, rs1, rs2, rdl, rky, rct, rcs, rcd, rno, rsw, Value.category, List.filter, List.take, List.drop, List.reverse, List.reverseAux, List.cons_append, List.nil_append, Option.toList, Int.toNat, Int.reduceToNat, if_pos, if_neg, reduceIte, ↓reduceIte, Nat.reduceAdd, Nat.reduceEqDiff, Nat.reduceBEq, beq_self_eq_true, Bool.not_true, Bool.not_false, Bool.and_true, Bool.and_false, Bool.true_and, Bool.false_and, gI_sI, gI_sL, gI_sA, gI_sM, gL_sI, gL_sL, gL_sA, gL_sM, aI_sI, aI_sL, aI_sA, aI_sM, aL_sI, aL_sL, aL_sA, aL_sM, BholdsValue_0, BholdsValue_5, BholdsValue_13, BholdsValue_21, BholdsValue_25, BholdsValue_29, BholdsValue_34, BholdsValue_40, BholdsValue_48, BholdsValue_52, BholdsValue_56, BholdsValue_57, oi_0, oi_1, oi_2]; try dsimp only
          refine ⟨fun h3 => ?_, fun h3 => ?_⟩
          · apply hB
            dsimp only [rgo, rfd, BholdsValue, Nat.beq, rwp, rst, lv_args, rlk, rs1, rs2, rdl, rky, rct, rcs, rcd, rno, rsw, Value.category, List.filter, List.take, List.drop, List.reverse, List.reverseAux, List.cons_append, List.nil_append, Option.toList, Int.toNat, Int.reduceToNat, if_pos, if_neg, reduceIte, ↓reduceIte, Nat.reduceAdd, Nat.reduceEqDiff, Nat.reduceBEq, beq_self_eq_true, Bool.not_true, Bool.not_false, Bool.and_true, Bool.and_false, Bool.true_and, Bool.false_and, gI_sI, gI_sL, gI_sA, gI_sM, gL_sI, gL_sL, gL_sA, gL_sM, aI_sI, aI_sL, aI_sA, aI_sM, aL_sI, aL_sL, aL_sA, aL_sM, BholdsValue_0, BholdsValue_5, BholdsValue_13, BholdsValue_21, BholdsValue_25, BholdsValue_29, BholdsValue_34, BholdsValue_40, BholdsValue_48, BholdsValue_52, BholdsValue_56, BholdsValue_57, oi_0, oi_1, oi_2]; try dsimp only
            apply hB
            dsimp only [rgo, rfd, BholdsValue, Nat.beq, rwp, rst, lv_args, rlk, rs1, rs2, rdl, rky, rct, rcs, rcd, rno, rsw, Value.category, List.filter, List.take, List.drop, List.reverse, List.reverseAux, List.cons_append, List.nil_append, Option.toList, Int.toNat, Int.reduceToNat, if_pos, if_neg, reduceIte, ↓reduceIte, Nat.reduceAdd, Nat.reduceEqDiff, Nat.reduceBEq, beq_self_eq_true, Bool.not_true, Bool.not_false, Bool.and_true, Bool.and_false, Bool.true_and, Bool.false_and, gI_sI, gI_sL, gI_sA, gI_sM, gL_sI, gL_sL, gL_sA, gL_sM, aI_sI, aI_sL, aI_sA, aI_sM, aL_sI, aL_sL, aL_sA, aL_sM, BholdsValue_0, BholdsValue_5, BholdsValue_13, BholdsValue_21, BholdsValue_25, BholdsValue_29, BholdsValue_34, BholdsValue_40, BholdsValue_48, BholdsValue_52, BholdsValue_56, BholdsValue_57, oi_0, oi_1, oi_2]; try dsimp only
            refine ⟨Or.inl rfl, ?_⟩
            exact ⟨_, rfl, Or.inl rfl, rfl⟩
          · apply hB
            dsimp only [rgo, rfd, BholdsValue, Nat.beq, rwp, rst, lv_args, rlk, rs1, rs2, rdl, rky, rct, rcs, rcd, rno, rsw, Value.category, List.filter, List.take, List.drop, List.reverse, List.reverseAux, List.cons_append, List.nil_append, Option.toList, Int.toNat, Int.reduceToNat, if_pos, if_neg, reduceIte, ↓reduceIte, Nat.reduceAdd, Nat.reduceEqDiff, Nat.reduceBEq, beq_self_eq_true, Bool.not_true, Bool.not_false, Bool.and_true, Bool.and_false, Bool.true_and, Bool.false_and, gI_sI, gI_sL, gI_sA, gI_sM, gL_sI, gL_sL, gL_sA, gL_sM, aI_sI, aI_sL, aI_sA, aI_sM, aL_sI, aL_sL, aL_sA, aL_sM, BholdsValue_0, BholdsValue_5, BholdsValue_13, BholdsValue_21, BholdsValue_25, BholdsValue_29, BholdsValue_34, BholdsValue_40, BholdsValue_48, BholdsValue_52, BholdsValue_56, BholdsValue_57, oi_0, oi_1, oi_2]; try dsimp only
            refine ⟨fun h4 => ?_, fun h4 => ?_⟩
            · apply hB
              dsimp only [rgo, rfd, BholdsValue, Nat.beq, rwp, rst, lv_args, rlk, rs1, rs2, rdl, rky, rct, rcs, rcd, rno, rsw, Value.category, List.filter, List.take, List.drop, List.reverse, List.reverseAux, List.cons_append, List.nil_append, Option.toList, Int.toNat, Int.reduceToNat, if_pos, if_neg, reduceIte, ↓reduceIte, Nat.reduceAdd, Nat.reduceEqDiff, Nat.reduceBEq, beq_self_eq_true, Bool.not_true, Bool.not_false, Bool.and_true, Bool.and_false, Bool.true_and, Bool.false_and, gI_sI, gI_sL, gI_sA, gI_sM, gL_sI, gL_sL, gL_sA, gL_sM, aI_sI, aI_sL, aI_sA, aI_sM, aL_sI, aL_sL, aL_sA, aL_sM, BholdsValue_0, BholdsValue_5, BholdsValue_13, BholdsValue_21, BholdsValue_25, BholdsValue_29, BholdsValue_34, BholdsValue_40, BholdsValue_48, BholdsValue_52, BholdsValue_56, BholdsValue_57, oi_0, oi_1, oi_2]; try dsimp only
              apply hB
              dsimp only [rgo, rfd, BholdsValue, Nat.beq, rwp, rst, lv_args, rlk, rs1, rs2, rdl, rky, rct, rcs, rcd, rno, rsw, Value.category, List.filter, List.take, List.drop, List.reverse, List.reverseAux, List.cons_append, List.nil_append, Option.toList, Int.toNat, Int.reduceToNat, if_pos, if_neg, reduceIte, ↓reduceIte, Nat.reduceAdd, Nat.reduceEqDiff, Nat.reduceBEq, beq_self_eq_true, Bool.not_true, Bool.not_false, Bool.and_true, Bool.and_false, Bool.true_and, Bool.false_and, gI_sI, gI_sL, gI_sA, gI_sM, gL_sI, gL_sL, gL_sA, gL_sM, aI_sI, aI_sL, aI_sA, aI_sM, aL_sI, aL_sL, aL_sA, aL_sM, BholdsValue_0, BholdsValue_5, BholdsValue_13, BholdsValue_21, BholdsValue_25, BholdsValue_29, BholdsValue_34, BholdsValue_40, BholdsValue_48, BholdsValue_52, BholdsValue_56, BholdsValue_57, oi_0, oi_1, oi_2]; try dsimp only
              refine ⟨Or.inl rfl, ?_⟩
              exact ⟨_, rfl, Or.inl rfl, rfl⟩
            · apply hB
              dsimp only [rgo, rfd, BholdsValue, Nat.beq, rwp, rst, lv_args, rlk, rs1, rs2, rdl, rky, rct, rcs, rcd, rno, rsw, Value.category, List.filter, List.take, List.drop, List.reverse, List.reverseAux, List.cons_append, List.nil_append, Option.toList, Int.toNat, Int.reduceToNat, if_pos, if_neg, reduceIte, ↓reduceIte, Nat.reduceAdd, Nat.reduceEqDiff, Nat.reduceBEq, beq_self_eq_true, Bool.not_true, Bool.not_false, Bool.and_true, Bool.and_false, Bool.true_and, Bool.false_and, gI_sI, gI_sL, gI_sA, gI_sM, gL_sI, gL_sL, gL_sA, gL_sM, aI_sI, aI_sL, aI_sA, aI_sM, aL_sI, aL_sL, aL_sA, aL_sM, BholdsValue_0, BholdsValue_5, BholdsValue_13, BholdsValue_21, BholdsValue_25, BholdsValue_29, BholdsValue_34, BholdsValue_40, BholdsValue_48, BholdsValue_52, BholdsValue_56, BholdsValue_57, oi_0, oi_1, oi_2]; try dsimp only
              apply hB
              dsimp only [rgo, rfd, BholdsValue, Nat.beq, rwp, rst, lv_args, rlk, rs1, rs2, rdl, rky, rct, rcs, rcd, rno, rsw, Value.category, List.filter, List.take, List.drop, List.reverse, List.reverseAux, List.cons_append, List.nil_append, Option.toList, Int.toNat, Int.reduceToNat, if_pos, if_neg, reduceIte, ↓reduceIte, Nat.reduceAdd, Nat.reduceEqDiff, Nat.reduceBEq, beq_self_eq_true, Bool.not_true, Bool.not_false, Bool.and_true, Bool.and_false, Bool.true_and, Bool.false_and, gI_sI, gI_sL, gI_sA, gI_sM, gL_sI, gL_sL, gL_sA, gL_sM, aI_sI, aI_sL, aI_sA, aI_sM, aL_sI, aL_sL, aL_sA, aL_sM, BholdsValue_0, BholdsValue_5, BholdsValue_13, BholdsValue_21, BholdsValue_25, BholdsValue_29, BholdsValue_34, BholdsValue_40, BholdsValue_48, BholdsValue_52, BholdsValue_56, BholdsValue_57, oi_0, oi_1, oi_2]; try dsimp only
              refine ⟨Or.inr rfl, ?_⟩
              exact ⟨_, rfl, Or.inr rfl, rfl⟩
      · apply hB
        dsimp only [rgo, rfd, BholdsValue, Nat.beq, rwp, rst, lv_args, rlk, rs1, rs2, rdl, rky, rct, rcs, rcd, rno, rsw, Value.category, List.filter, List.take, List.drop, List.reverse, List.reverseAux, List.cons_append, List.nil_append, Option.toList, Int.toNat, Int.reduceToNat, if_pos, if_neg, reduceIte, ↓reduceIte, Nat.reduceAdd, Nat.reduceEqDiff, Nat.reduceBEq, beq_self_eq_true, Bool.not_true, Bool.not_false, Bool.and_true, Bool.and_false, Bool.true_and, Bool.false_and, gI_sI, gI_sL, gI_sA, gI_sM, gL_sI, gL_sL, gL_sA, gL_sM, aI_sI, aI_sL, aI_sA, aI_sM, aL_sI, aL_sL, aL_sA, aL_sM, BholdsValue_0, BholdsValue_5, BholdsValue_13, BholdsValue_21, BholdsValue_25, BholdsValue_29, BholdsValue_34, BholdsValue_40, BholdsValue_48, BholdsValue_52, BholdsValue_56, BholdsValue_57, oi_0, oi_1, oi_2]; try dsimp only
        refine ⟨fun h5 => ?_, fun h5 => ?_⟩
        · apply hB
          dsimp only [rgo, rfd, BholdsValue, Nat.beq, rwp, rst, lv_args, rlk, rs1, rs2, rdl, rky, rct, rcs, rcd, rno, rsw, Value.category, List.filter, List.take, List.drop, List.reverse, List.reverseAux, List.cons_append, List.nil_append, Option.toList, Int.toNat, Int.reduceToNat, if_pos, if_neg, reduceIte, ↓reduceIte, Nat.reduceAdd, Nat.reduceEqDiff, Nat.reduceBEq, beq_self_eq_true, Bool.not_true, Bool.not_false, Bool.and_true, Bool.and_false, Bool.true_and, Bool.false_and, gI_sI, gI_sL, gI_sA, gI_sM, gL_sI, gL_sL, gL_sA, gL_sM, aI_sI, aI_sL, aI_sA, aI_sM, aL_sI, aL_sL, aL_sA, aL_sM, BholdsValue_0, BholdsValue_5, BholdsValue_13, BholdsValue_21, BholdsValue_25, BholdsValue_29, BholdsValue_34, BholdsValue_40, BholdsValue_48, BholdsValue_52, BholdsValue_56, BholdsValue_57, oi_0, oi_1, oi_2]; try dsimp only
          apply hB
          dsimp only [rgo, rfd, BholdsValue, Nat.beq, rwp, rst, lv_args, rlk, rs1, rs2, rdl, rky, rct, rcs, rcd, rno, rsw, Value.category, List.filter, List.take, List.drop, List.reverse, List.reverseAux, List.cons_append, List.nil_append, Option.toList, Int.toNat, Int.reduceToNat, if_pos, if_neg, reduceIte, ↓reduceIte, Nat.reduceAdd, Nat.reduceEqDiff, Nat.reduceBEq, beq_self_eq_true, Bool.not_true, Bool.not_false, Bool.and_true, Bool.and_false, Bool.true_and, Bool.false_and, gI_sI, gI_sL, gI_sA, gI_sM, gL_sI, gL_sL, gL_sA, gL_sM, aI_sI, aI_sL, aI_sA, aI_sM, aL_sI, aL_sL, aL_sA, aL_sM, BholdsValue_0, BholdsValue_5, BholdsValue_13, BholdsValue_21, BholdsValue_25, BholdsValue_29, BholdsValue_34, BholdsValue_40, BholdsValue_48, BholdsValue_52, BholdsValue_56, BholdsValue_57, oi_0, oi_1, oi_2]; try dsimp only
          refine ⟨Or.inl rfl, ?_⟩
          exact ⟨_, rfl, Or.inl rfl, rfl⟩
        · apply hB
          dsimp only [rgo, rfd, BholdsValue, Nat.beq, rwp, rst, lv_args, rlk, rs1, rs2, rdl, rky, rct, rcs, rcd, rno, rsw, Value.category, List.filter, List.take, List.drop, List.reverse, List.reverseAux, List.cons_append, List.nil_append, Option.toList, Int.toNat, Int.reduceToNat, if_pos, if_neg, reduceIte, ↓reduceIte, Nat.reduceAdd, Nat.reduceEqDiff, Nat.reduceBEq, beq_self_eq_true, Bool.not_true, Bool.not_false, Bool.and_true, Bool.and_false, Bool.true_and, Bool.false_and, gI_sI, gI_sL, gI_sA, gI_sM, gL_sI, gL_sL, gL_sA, gL_sM, aI_sI, aI_sL, aI_sA, aI_sM, aL_sI, aL_sL, aL_sA, aL_sM, BholdsValue_0, BholdsValue_5, BholdsValue_13, BholdsValue_21, BholdsValue_25, BholdsValue_29, BholdsValue_34, BholdsValue_40, BholdsValue_48, BholdsValue_52, BholdsValue_56, BholdsValue_57, oi_0, oi_1, oi_2]; try dsimp only
          refine ⟨fun h6 => ?_, fun h6 => ?_⟩
          · apply hB
            dsimp only [rgo, rfd, BholdsValue, Nat.beq, rwp, rst, lv_args, rlk, rs1, rs2, rdl, rky, rct, rcs, rcd, rno, rsw, Value.category, List.filter, List.take, List.drop, List.reverse, List.reverseAux, List.cons_append, List.nil_append, Option.toList, Int.toNat, Int.reduceToNat, if_pos, if_neg, reduceIte, ↓reduceIte, Nat.reduceAdd, Nat.reduceEqDiff, Nat.reduceBEq, beq_self_eq_true, Bool.not_true, Bool.not_false, Bool.and_true, Bool.and_false, Bool.true_and, Bool.false_and, gI_sI, gI_sL, gI_sA, gI_sM, gL_sI, gL_sL, gL_sA, gL_sM, aI_sI, aI_sL, aI_sA, aI_sM, aL_sI, aL_sL, aL_sA, aL_sM, BholdsValue_0, BholdsValue_5, BholdsValue_13, BholdsValue_21, BholdsValue_25, BholdsValue_29, BholdsValue_34, BholdsValue_40, BholdsValue_48, BholdsValue_52, BholdsValue_56, BholdsValue_57, oi_0, oi_1, oi_2]; try dsimp only
            apply hB
            dsimp only [rgo, rfd, BholdsValue, Nat.beq, rwp, rst, lv_args, rlk, rs1, rs2, rdl, rky, rct, rcs, rcd, rno, rsw, Value.category, List.filter, List.take, List.drop, List.reverse, List.reverseAux, List.cons_append, List.nil_append, Option.toList, Int.toNat, Int.reduceToNat, if_pos, if_neg, reduceIte, ↓reduceIte, Nat.reduceAdd, Nat.reduceEqDiff, Nat.reduceBEq, beq_self_eq_true, Bool.not_true, Bool.not_false, Bool.and_true, Bool.and_false, Bool.true_and, Bool.false_and, gI_sI, gI_sL, gI_sA, gI_sM, gL_sI, gL_sL, gL_sA, gL_sM, aI_sI, aI_sL, aI_sA, aI_sM, aL_sI, aL_sL, aL_sA, aL_sM, BholdsValue_0, BholdsValue_5, BholdsValue_13, BholdsValue_21, BholdsValue_25, BholdsValue_29, BholdsValue_34, BholdsValue_40, BholdsValue_48, BholdsValue_52, BholdsValue_56, BholdsValue_57, oi_0, oi_1, oi_2]; try dsimp only
            refine ⟨Or.inl rfl, ?_⟩
            exact ⟨_, rfl, Or.inl rfl, rfl⟩
          · apply hB
            dsimp only [rgo, rfd, BholdsValue, Nat.beq, rwp, rst, lv_args, rlk, rs1, rs2, rdl, rky, rct, rcs, rcd, rno, rsw, Value.category, List.filter, List.take, List.drop, List.reverse, List.reverseAux, List.cons_append, List.nil_append, Option.toList, Int.toNat, Int.reduceToNat, if_pos, if_neg, reduceIte, ↓reduceIte, Nat.reduceAdd, Nat.reduceEqDiff, Nat.reduceBEq, beq_self_eq_true, Bool.not_true, Bool.not_false, Bool.and_true, Bool.and_false, Bool.true_and, Bool.false_and, gI_sI, gI_sL, gI_sA, gI_sM, gL_sI, gL_sL, gL_sA, gL_sM, aI_sI, aI_sL, aI_sA, aI_sM, aL_sI, aL_sL, aL_sA, aL_sM, BholdsValue_0, BholdsValue_5, BholdsValue_13, BholdsValue_21, BholdsValue_25, BholdsValue_29, BholdsValue_34, BholdsValue_40, BholdsValue_48, BholdsValue_52, BholdsValue_56, BholdsValue_57, oi_0, oi_1, oi_2]; try dsimp only
            apply hB
            dsimp only [rgo, rfd, BholdsValue, Nat.beq, rwp, rst, lv_args, rlk, rs1, rs2, rdl, rky, rct, rcs, rcd, rno, rsw, Value.category, List.filter, List.take, List.drop, List.reverse, List.reverseAux, List.cons_append, List.nil_append, Option.toList, Int.toNat, Int.reduceToNat, if_pos, if_neg, reduceIte, ↓reduceIte, Nat.reduceAdd, Nat.reduceEqDiff, Nat.reduceBEq, beq_self_eq_true, Bool.not_true, Bool.not_false, Bool.and_true, Bool.and_false, Bool.true_and, Bool.false_and, gI_sI, gI_sL, gI_sA, gI_sM, gL_sI, gL_sL, gL_sA, gL_sM, aI_sI, aI_sL, aI_sA, aI_sM, aL_sI, aL_sL, aL_sA, aL_sM, BholdsValue_0, BholdsValue_5, BholdsValue_13, BholdsValue_21, BholdsValue_25, BholdsValue_29, BholdsValue_34, BholdsValue_40, BholdsValue_48, BholdsValue_52, BholdsValue_56, BholdsValue_57, oi_0, oi_1, oi_2]; try dsimp only
            refine ⟨Or.inr rfl, ?_⟩
            exact ⟨_, rfl, Or.inr rfl, rfl⟩
    next => exact hP.elim
theorem m_holdsValue (l : Launch) : RMet l 1 74 P_holdsValue Q_holdsValue := by
  refine RMet.by BholdsValue [] roholdsValue okBholdsValue ct0 ?_ b_holdsValue
  · intro As σ hP
    unfold P_holdsValue at hP
    split at hP
    next => exact Nat.le_of_ble_eq_true rfl
    next => exact hP.elim
set_option maxRecDepth 100000 in
theorem e_holdsValue (l : Launch) : RMetE l 1 74 P_holdsValue Q_holdsValue := by
  refine RMetE.by BholdsValue [] rfl rfl roholdsValue okBholdsValue ctE0 ?_ b_holdsValue
  · intro As σ hP
    unfold P_holdsValue at hP
    split at hP
    next => exact Nat.le_of_ble_eq_true rfl
    next => exact hP.elim
def P_wide : RP := fun As σ => match As with
  | [.int ty] => True
  | _ => False
def Q_wide : RQ := fun As σ w τ => match As with
  | [.int ty] => ∃ r : Int32, w = some (.int r) ∧ (r = 3 ∨ r = 4) ∧ τ = σ
  | _ => False
set_option maxRecDepth 100000 in
set_option maxHeartbeats 4000000 in
theorem b_wide : Bod Bwide [] P_wide Q_wide := by
  · intro As σ hP G hB hW
    unfold P_wide at hP
    split at hP
    next ty => 
      unfold Q_wide at hB
      dsimp only at hB
      apply hB
      dsimp only [rgo, rfd, Bwide, Nat.beq, rwp, rst, lv_args, rlk, rs1, rs2, rdl, rky, rct, rcs, rcd, rno, rsw, Value.category, List.filter, List.take, List.drop, List.reverse, List.reverseAux, List.cons_append, List.nil_append, Option.toList, Int.toNat, Int.reduceToNat, if_pos, if_neg, reduceIte, ↓reduceIte, Nat.reduceAdd, Nat.reduceEqDiff, Nat.reduceBEq, beq_self_eq_true, Bool.not_true, Bool.not_false, Bool.and_true, Bool.and_false, Bool.true_and, Bool.false_and, gI_sI, gI_sL, gI_sA, gI_sM, gL_sI, gL_sL, gL_sA, gL_sM, aI_sI, aI_sL, aI_sA, aI_sM, aL_sI, aL_sL, aL_sA, aL_sM, Bwide_0, Bwide_5, Bwide_9, Bwide_10, oi_3, oi_4]; try dsimp only
      refine ⟨fun h1 => ?_, fun h1 => ?_⟩
      · apply hB
        dsimp only [rgo, rfd, Bwide, Nat.beq, rwp, rst, lv_args, rlk, rs1, rs2, rdl, rky, rct, rcs, rcd, rno, rsw, Value.category, List.filter, List.take, List.drop, List.reverse, List.reverseAux, List.cons_append, List.nil_append, Option.toList, Int.toNat, Int.reduceToNat, if_pos, if_neg, reduceIte, ↓reduceIte, Nat.reduceAdd, Nat.reduceEqDiff, Nat.reduceBEq, beq_self_eq_true, Bool.not_true, Bool.not_false, Bool.and_true, Bool.and_false, Bool.true_and, Bool.false_and, gI_sI, gI_sL, gI_sA, gI_sM, gL_sI, gL_sL, gL_sA, gL_sM, aI_sI, aI_sL, aI_sA, aI_sM, aL_sI, aL_sL, aL_sA, aL_sM, Bwide_0, Bwide_5, Bwide_9, Bwide_10, oi_3, oi_4]; try dsimp only
        apply hB
        dsimp only [rgo, rfd, Bwide, Nat.beq, rwp, rst, lv_args, rlk, rs1, rs2, rdl, rky, rct, rcs, rcd, rno, rsw, Value.category, List.filter, List.take, List.drop, List.reverse, List.reverseAux, List.cons_append, List.nil_append, Option.toList, Int.toNat, Int.reduceToNat, if_pos, if_neg, reduceIte, ↓reduceIte, Nat.reduceAdd, Nat.reduceEqDiff, Nat.reduceBEq, beq_self_eq_true, Bool.not_true, Bool.not_false, Bool.and_true, Bool.and_false, Bool.true_and, Bool.false_and, gI_sI, gI_sL, gI_sA, gI_sM, gL_sI, gL_sL, gL_sA, gL_sM, aI_sI, aI_sL, aI_sA, aI_sM, aL_sI, aL_sL, aL_sA, aL_sM, Bwide_0, Bwide_5, Bwide_9, Bwide_10, oi_3, oi_4]; try dsimp only
        refine ⟨trivial, ?_⟩
        exact ⟨_, rfl, by decide, rfl⟩
      · apply hB
        dsimp only [rgo, rfd, Bwide, Nat.beq, rwp, rst, lv_args, rlk, rs1, rs2, rdl, rky, rct, rcs, rcd, rno, rsw, Value.category, List.filter, List.take, List.drop, List.reverse, List.reverseAux, List.cons_append, List.nil_append, Option.toList, Int.toNat, Int.reduceToNat, if_pos, if_neg, reduceIte, ↓reduceIte, Nat.reduceAdd, Nat.reduceEqDiff, Nat.reduceBEq, beq_self_eq_true, Bool.not_true, Bool.not_false, Bool.and_true, Bool.and_false, Bool.true_and, Bool.false_and, gI_sI, gI_sL, gI_sA, gI_sM, gL_sI, gL_sL, gL_sA, gL_sM, aI_sI, aI_sL, aI_sA, aI_sM, aL_sI, aL_sL, aL_sA, aL_sM, Bwide_0, Bwide_5, Bwide_9, Bwide_10, oi_3, oi_4]; try dsimp only
        apply hB
        dsimp only [rgo, rfd, Bwide, Nat.beq, rwp, rst, lv_args, rlk, rs1, rs2, rdl, rky, rct, rcs, rcd, rno, rsw, Value.category, List.filter, List.take, List.drop, List.reverse, List.reverseAux, List.cons_append, List.nil_append, Option.toList, Int.toNat, Int.reduceToNat, if_pos, if_neg, reduceIte, ↓reduceIte, Nat.reduceAdd, Nat.reduceEqDiff, Nat.reduceBEq, beq_self_eq_true, Bool.not_true, Bool.not_false, Bool.and_true, Bool.and_false, Bool.true_and, Bool.false_and, gI_sI, gI_sL, gI_sA, gI_sM, gL_sI, gL_sL, gL_sA, gL_sM, aI_sI, aI_sL, aI_sA, aI_sM, aL_sI, aL_sL, aL_sA, aL_sM, Bwide_0, Bwide_5, Bwide_9, Bwide_10, oi_3, oi_4]; try dsimp only
        refine ⟨trivial, ?_⟩
        exact ⟨_, rfl, by decide, rfl⟩
    next => exact hP.elim
theorem m_wide (l : Launch) : RMet l 1 81 P_wide Q_wide := by
  refine RMet.by Bwide [] rowide okBwide ct0 ?_ b_wide
  · intro As σ hP
    unfold P_wide at hP
    split at hP
    next => exact Nat.le_of_ble_eq_true rfl
    next => exact hP.elim
set_option maxRecDepth 100000 in
theorem e_wide (l : Launch) : RMetE l 1 81 P_wide Q_wide := by
  refine RMetE.by Bwide [] rfl rfl rowide okBwide ctE0 ?_ b_wide
  · intro As σ hP
    unfold P_wide at hP
    split at hP
    next => exact Nat.le_of_ble_eq_true rfl
    next => exact hP.elim
def P_isShift : RP := fun As σ => match As with
  | [.int s] => True
  | _ => False
def Q_isShift : RQ := fun As σ w τ => match As with
  | [.int s] => ∃ r : Int32, w = some (.int r) ∧ (r = 0 ∨ r = 1) ∧ τ = σ
  | _ => False
set_option maxRecDepth 100000 in
set_option maxHeartbeats 4000000 in
theorem b_isShift : Bod BisShift [] P_isShift Q_isShift := by
  · intro As σ hP G hB hW
    unfold P_isShift at hP
    split at hP
    next s => 
      unfold Q_isShift at hB
      dsimp only at hB
      apply hB
      dsimp only [rgo, rfd, BisShift, Nat.beq, rwp, rst, lv_args, rlk, rs1, rs2, rdl, rky, rct, rcs, rcd, rno, rsw, Value.category, List.filter, List.take, List.drop, List.reverse, List.reverseAux, List.cons_append, List.nil_append, Option.toList, Int.toNat, Int.reduceToNat, if_pos, if_neg, reduceIte, ↓reduceIte, Nat.reduceAdd, Nat.reduceEqDiff, Nat.reduceBEq, beq_self_eq_true, Bool.not_true, Bool.not_false, Bool.and_true, Bool.and_false, Bool.true_and, Bool.false_and, gI_sI, gI_sL, gI_sA, gI_sM, gL_sI, gL_sL, gL_sA, gL_sM, aI_sI, aI_sL, aI_sA, aI_sM, aL_sI, aL_sL, aL_sA, aL_sM, BisShift_0, BisShift_7, BisShift_14, BisShift_21, BisShift_25, BisShift_26, oi_0, oi_1, oi_304, oi_305, oi_306]; try dsimp only
      refine ⟨fun h1 => ?_, fun h1 => ?_⟩
      · apply hB
        dsimp only [rgo, rfd, BisShift, Nat.beq, rwp, rst, lv_args, rlk, rs1, rs2, rdl, rky, rct, rcs, rcd, rno, rsw, Value.category, List.filter, List.take, List.drop, List.reverse, List.reverseAux, List.cons_append, List.nil_append, Option.toList, Int.toNat, Int.reduceToNat, if_pos, if_neg, reduceIte, ↓reduceIte, Nat.reduceAdd, Nat.reduceEqDiff, Nat.reduceBEq, beq_self_eq_true, Bool.not_true, Bool.not_false, Bool.and_true, Bool.and_false, Bool.true_and, Bool.false_and, gI_sI, gI_sL, gI_sA, gI_sM, gL_sI, gL_sL, gL_sA, gL_sM, aI_sI, aI_sL, aI_sA, aI_sM, aL_sI, aL_sL, aL_sA, aL_sM, BisShift_0, BisShift_7, BisShift_14, BisShift_21, BisShift_25, BisShift_26, oi_0, oi_1, oi_304, oi_305, oi_306]; try dsimp only
        apply hB
        dsimp only [rgo, rfd, BisShift, Nat.beq, rwp, rst, lv_args, rlk, rs1, rs2, rdl, rky, rct, rcs, rcd, rno, rsw, Value.category, List.filter, List.take, List.drop, List.reverse, List.reverseAux, List.cons_append, List.nil_append, Option.toList, Int.toNat, Int.reduceToNat, if_pos, if_neg, reduceIte, ↓reduceIte, Nat.reduceAdd, Nat.reduceEqDiff, Nat.reduceBEq, beq_self_eq_true, Bool.not_true, Bool.not_false, Bool.and_true, Bool.and_false, Bool.true_and, Bool.false_and, gI_sI, gI_sL, gI_sA, gI_sM, gL_sI, gL_sL, gL_sA, gL_sM, aI_sI, aI_sL, aI_sA, aI_sM, aL_sI, aL_sL, aL_sA, aL_sM, BisShift_0, BisShift_7, BisShift_14, BisShift_21, BisShift_25, BisShift_26, oi_0, oi_1, oi_304, oi_305, oi_306]; try dsimp only
        refine ⟨Or.inr rfl, ?_⟩
        exact ⟨_, rfl, Or.inr rfl, rfl⟩
      · apply hB
        dsimp only [rgo, rfd, BisShift, Nat.beq, rwp, rst, lv_args, rlk, rs1, rs2, rdl, rky, rct, rcs, rcd, rno, rsw, Value.category, List.filter, List.take, List.drop, List.reverse, List.reverseAux, List.cons_append, List.nil_append, Option.toList, Int.toNat, Int.reduceToNat, if_pos, if_neg, reduceIte, ↓reduceIte, Nat.reduceAdd, Nat.reduceEqDiff, Nat.reduceBEq, beq_self_eq_true, Bool.not_true, Bool.not_false, Bool.and_true, Bool.and_false, Bool.true_and, Bool.false_and, gI_sI, gI_sL, gI_sA, gI_sM, gL_sI, gL_sL, gL_sA, gL_sM, aI_sI, aI_sL, aI_sA, aI_sM, aL_sI, aL_sL, aL_sA, aL_sM, BisShift_0, BisShift_7, BisShift_14, BisShift_21, BisShift_25, BisShift_26, oi_0, oi_1, oi_304, oi_305, oi_306]; try dsimp only
        refine ⟨fun h2 => ?_, fun h2 => ?_⟩
        · apply hB
          dsimp only [rgo, rfd, BisShift, Nat.beq, rwp, rst, lv_args, rlk, rs1, rs2, rdl, rky, rct, rcs, rcd, rno, rsw, Value.category, List.filter, List.take, List.drop, List.reverse, List.reverseAux, List.cons_append, List.nil_append, Option.toList, Int.toNat, Int.reduceToNat, if_pos, if_neg, reduceIte, ↓reduceIte, Nat.reduceAdd, Nat.reduceEqDiff, Nat.reduceBEq, beq_self_eq_true, Bool.not_true, Bool.not_false, Bool.and_true, Bool.and_false, Bool.true_and, Bool.false_and, gI_sI, gI_sL, gI_sA, gI_sM, gL_sI, gL_sL, gL_sA, gL_sM, aI_sI, aI_sL, aI_sA, aI_sM, aL_sI, aL_sL, aL_sA, aL_sM, BisShift_0, BisShift_7, BisShift_14, BisShift_21, BisShift_25, BisShift_26, oi_0, oi_1, oi_304, oi_305, oi_306]; try dsimp only
          apply hB
          dsimp only [rgo, rfd, BisShift, Nat.beq, rwp, rst, lv_args, rlk, rs1, rs2, rdl, rky, rct, rcs, rcd, rno, rsw, Value.category, List.filter, List.take, List.drop, List.reverse, List.reverseAux, List.cons_append, List.nil_append, Option.toList, Int.toNat, Int.reduceToNat, if_pos, if_neg, reduceIte, ↓reduceIte, Nat.reduceAdd, Nat.reduceEqDiff, Nat.reduceBEq, beq_self_eq_true, Bool.not_true, Bool.not_false, Bool.and_true, Bool.and_false, Bool.true_and, Bool.false_and, gI_sI, gI_sL, gI_sA, gI_sM, gL_sI, gL_sL, gL_sA, gL_sM, aI_sI, aI_sL, aI_sA, aI_sM, aL_sI, aL_sL, aL_sA, aL_sM, BisShift_0, BisShift_7, BisShift_14, BisShift_21, BisShift_25, BisShift_26, oi_0, oi_1, oi_304, oi_305, oi_306]; try dsimp only
          refine ⟨Or.inr rfl, ?_⟩
          exact ⟨_, rfl, Or.inr rfl, rfl⟩
        · apply hB
          dsimp only [rgo, rfd, BisShift, Nat.beq, rwp, rst, lv_args, rlk, rs1, rs2, rdl, rky, rct, rcs, rcd, rno, rsw, Value.category, List.filter, List.take, List.drop, List.reverse, List.reverseAux, List.cons_append, List.nil_append, Option.toList, Int.toNat, Int.reduceToNat, if_pos, if_neg, reduceIte, ↓reduceIte, Nat.reduceAdd, Nat.reduceEqDiff, Nat.reduceBEq, beq_self_eq_true, Bool.not_true, Bool.not_false, Bool.and_true, Bool.and_false, Bool.true_and, Bool.false_and, gI_sI, gI_sL, gI_sA, gI_sM, gL_sI, gL_sL, gL_sA, gL_sM, aI_sI, aI_sL, aI_sA, aI_sM, aL_sI, aL_sL, aL_sA, aL_sM, BisShift_0, BisShift_7, BisShift_14, BisShift_21, BisShift_25, BisShift_26, oi_0, oi_1, oi_304, oi_305, oi_306]; try dsimp only
          refine ⟨fun h3 => ?_, fun h3 => ?_⟩
          · apply hB
            dsimp only [rgo, rfd, BisShift, Nat.beq, rwp, rst, lv_args, rlk, rs1, rs2, rdl, rky, rct, rcs, rcd, rno, rsw, Value.category, List.filter, List.take, List.drop, List.reverse, List.reverseAux, List.cons_append, List.nil_append, Option.toList, Int.toNat, Int.reduceToNat, if_pos, if_neg, reduceIte, ↓reduceIte, Nat.reduceAdd, Nat.reduceEqDiff, Nat.reduceBEq, beq_self_eq_true, Bool.not_true, Bool.not_false, Bool.and_true, Bool.and_false, Bool.true_and, Bool.false_and, gI_sI, gI_sL, gI_sA, gI_sM, gL_sI, gL_sL, gL_sA, gL_sM, aI_sI, aI_sL, aI_sA, aI_sM, aL_sI, aL_sL, aL_sA, aL_sM, BisShift_0, BisShift_7, BisShift_14, BisShift_21, BisShift_25, BisShift_26, oi_0, oi_1, oi_304, oi_305, oi_306]; try dsimp only
            apply hB
            dsimp only [rgo, rfd, BisShift, Nat.beq, rwp, rst, lv_args, rlk, rs1, rs2, rdl, rky, rct, rcs, rcd, rno, rsw, Value.category, List.filter, List.take, List.drop, List.reverse, List.reverseAux, List.cons_append, List.nil_append, Option.toList, Int.toNat, Int.reduceToNat, if_pos, if_neg, reduceIte, ↓reduceIte, Nat.reduceAdd, Nat.reduceEqDiff, Nat.reduceBEq, beq_self_eq_true, Bool.not_true, Bool.not_false, Bool.and_true, Bool.and_false, Bool.true_and, Bool.false_and, gI_sI, gI_sL, gI_sA, gI_sM, gL_sI, gL_sL, gL_sA, gL_sM, aI_sI, aI_sL, aI_sA, aI_sM, aL_sI, aL_sL, aL_sA, aL_sM, BisShift_0, BisShift_7, BisShift_14, BisShift_21, BisShift_25, BisShift_26, oi_0, oi_1, oi_304, oi_305, oi_306]; try dsimp only
            refine ⟨Or.inl rfl, ?_⟩
            exact ⟨_, rfl, Or.inl rfl, rfl⟩
          · apply hB
            dsimp only [rgo, rfd, BisShift, Nat.beq, rwp, rst, lv_args, rlk, rs1, rs2, rdl, rky, rct, rcs, rcd, rno, rsw, Value.category, List.filter, List.take, List.drop, List.reverse, List.reverseAux, List.cons_append, List.nil_append, Option.toList, Int.toNat, Int.reduceToNat, if_pos, if_neg, reduceIte, ↓reduceIte, Nat.reduceAdd, Nat.reduceEqDiff, Nat.reduceBEq, beq_self_eq_true, Bool.not_true, Bool.not_false, Bool.and_true, Bool.and_false, Bool.true_and, Bool.false_and, gI_sI, gI_sL, gI_sA, gI_sM, gL_sI, gL_sL, gL_sA, gL_sM, aI_sI, aI_sL, aI_sA, aI_sM, aL_sI, aL_sL, aL_sA, aL_sM, BisShift_0, BisShift_7, BisShift_14, BisShift_21, BisShift_25, BisShift_26, oi_0, oi_1, oi_304, oi_305, oi_306]; try dsimp only
            apply hB
            dsimp only [rgo, rfd, BisShift, Nat.beq, rwp, rst, lv_args, rlk, rs1, rs2, rdl, rky, rct, rcs, rcd, rno, rsw, Value.category, List.filter, List.take, List.drop, List.reverse, List.reverseAux, List.cons_append, List.nil_append, Option.toList, Int.toNat, Int.reduceToNat, if_pos, if_neg, reduceIte, ↓reduceIte, Nat.reduceAdd, Nat.reduceEqDiff, Nat.reduceBEq, beq_self_eq_true, Bool.not_true, Bool.not_false, Bool.and_true, Bool.and_false, Bool.true_and, Bool.false_and, gI_sI, gI_sL, gI_sA, gI_sM, gL_sI, gL_sL, gL_sA, gL_sM, aI_sI, aI_sL, aI_sA, aI_sM, aL_sI, aL_sL, aL_sA, aL_sM, BisShift_0, BisShift_7, BisShift_14, BisShift_21, BisShift_25, BisShift_26, oi_0, oi_1, oi_304, oi_305, oi_306]; try dsimp only
            refine ⟨Or.inr rfl, ?_⟩
            exact ⟨_, rfl, Or.inr rfl, rfl⟩
    next => exact hP.elim
theorem m_isShift (l : Launch) : RMet l 1 93 P_isShift Q_isShift := by
  refine RMet.by BisShift [] roisShift okBisShift ct0 ?_ b_isShift
  · intro As σ hP
    unfold P_isShift at hP
    split at hP
    next => exact Nat.le_of_ble_eq_true rfl
    next => exact hP.elim
set_option maxRecDepth 100000 in
theorem e_isShift (l : Launch) : RMetE l 1 93 P_isShift Q_isShift := by
  refine RMetE.by BisShift [] rfl rfl roisShift okBisShift ctE0 ?_ b_isShift
  · intro As σ hP
    unfold P_isShift at hP
    split at hP
    next => exact Nat.le_of_ble_eq_true rfl
    next => exact hP.elim
def P_isBits : RP := fun As σ => match As with
  | [.int s] => True
  | _ => False
def Q_isBits : RQ := fun As σ w τ => match As with
  | [.int s] => ∃ r : Int32, w = some (.int r) ∧ (r = 0 ∨ r = 1) ∧ τ = σ
  | _ => False
set_option maxRecDepth 100000 in
set_option maxHeartbeats 4000000 in
theorem b_isBits : Bod BisBits [] P_isBits Q_isBits := by
  · intro As σ hP G hB hW
    unfold P_isBits at hP
    split at hP
    next s => 
      unfold Q_isBits at hB
      dsimp only at hB
      apply hB
      dsimp only [rgo, rfd, BisBits, Nat.beq, rwp, rst, lv_args, rlk, rs1, rs2, rdl, rky, rct, rcs, rcd, rno, rsw, Value.category, List.filter, List.take, List.drop, List.reverse, List.reverseAux, List.cons_append, List.nil_append, Option.toList, Int.toNat, Int.reduceToNat, if_pos, if_neg, reduceIte, ↓reduceIte, Nat.reduceAdd, Nat.reduceEqDiff, Nat.reduceBEq, beq_self_eq_true, Bool.not_true, Bool.not_false, Bool.and_true, Bool.and_false, Bool.true_and, Bool.false_and, gI_sI, gI_sL, gI_sA, gI_sM, gL_sI, gL_sL, gL_sA, gL_sM, aI_sI, aI_sL, aI_sA, aI_sM, aL_sI, aL_sL, aL_sA, aL_sM, BisBits_0, BisBits_6, BisBits_12, BisBits_18, BisBits_22, BisBits_23, oi_0, oi_1, oi_124, oi_38, oi_94]; try dsimp only
      refine ⟨fun h1 => ?_, fun h1 => ?_⟩
      · apply hB
        dsimp only [rgo, rfd, BisBits, Nat.beq, rwp, rst, lv_args, rlk, rs1, rs2, rdl, rky, rct, rcs, rcd, rno, rsw, Value.category, List.filter, List.take, List.drop, List.reverse, List.reverseAux, List.cons_append, List.nil_append, Option.toList, Int.toNat, Int.reduceToNat, if_pos, if_neg, reduceIte, ↓reduceIte, Nat.reduceAdd, Nat.reduceEqDiff, Nat.reduceBEq, beq_self_eq_true, Bool.not_true, Bool.not_false, Bool.and_true, Bool.and_false, Bool.true_and, Bool.false_and, gI_sI, gI_sL, gI_sA, gI_sM, gL_sI, gL_sL, gL_sA, gL_sM, aI_sI, aI_sL, aI_sA, aI_sM, aL_sI, aL_sL, aL_sA, aL_sM, BisBits_0, BisBits_6, BisBits_12, BisBits_18, BisBits_22, BisBits_23, oi_0, oi_1, oi_124, oi_38, oi_94]; try dsimp only
        apply hB
        dsimp only [rgo, rfd, BisBits, Nat.beq, rwp, rst, lv_args, rlk, rs1, rs2, rdl, rky, rct, rcs, rcd, rno, rsw, Value.category, List.filter, List.take, List.drop, List.reverse, List.reverseAux, List.cons_append, List.nil_append, Option.toList, Int.toNat, Int.reduceToNat, if_pos, if_neg, reduceIte, ↓reduceIte, Nat.reduceAdd, Nat.reduceEqDiff, Nat.reduceBEq, beq_self_eq_true, Bool.not_true, Bool.not_false, Bool.and_true, Bool.and_false, Bool.true_and, Bool.false_and, gI_sI, gI_sL, gI_sA, gI_sM, gL_sI, gL_sL, gL_sA, gL_sM, aI_sI, aI_sL, aI_sA, aI_sM, aL_sI, aL_sL, aL_sA, aL_sM, BisBits_0, BisBits_6, BisBits_12, BisBits_18, BisBits_22, BisBits_23, oi_0, oi_1, oi_124, oi_38, oi_94]; try dsimp only
        refine ⟨Or.inr rfl, ?_⟩
        exact ⟨_, rfl, Or.inr rfl, rfl⟩
      · apply hB
        dsimp only [rgo, rfd, BisBits, Nat.beq, rwp, rst, lv_args, rlk, rs1, rs2, rdl, rky, rct, rcs, rcd, rno, rsw, Value.category, List.filter, List.take, List.drop, List.reverse, List.reverseAux, List.cons_append, List.nil_append, Option.toList, Int.toNat, Int.reduceToNat, if_pos, if_neg, reduceIte, ↓reduceIte, Nat.reduceAdd, Nat.reduceEqDiff, Nat.reduceBEq, beq_self_eq_true, Bool.not_true, Bool.not_false, Bool.and_true, Bool.and_false, Bool.true_and, Bool.false_and, gI_sI, gI_sL, gI_sA, gI_sM, gL_sI, gL_sL, gL_sA, gL_sM, aI_sI, aI_sL, aI_sA, aI_sM, aL_sI, aL_sL, aL_sA, aL_sM, BisBits_0, BisBits_6, BisBits_12, BisBits_18, BisBits_22, BisBits_23, oi_0, oi_1, oi_124, oi_38, oi_94]; try dsimp only
        refine ⟨fun h2 => ?_, fun h2 => ?_⟩
        · apply hB
          dsimp only [rgo, rfd, BisBits, Nat.beq, rwp, rst, lv_args, rlk, rs1, rs2, rdl, rky, rct, rcs, rcd, rno, rsw, Value.category, List.filter, List.take, List.drop, List.reverse, List.reverseAux, List.cons_append, List.nil_append, Option.toList, Int.toNat, Int.reduceToNat, if_pos, if_neg, reduceIte, ↓reduceIte, Nat.reduceAdd, Nat.reduceEqDiff, Nat.reduceBEq, beq_self_eq_true, Bool.not_true, Bool.not_false, Bool.and_true, Bool.and_false, Bool.true_and, Bool.false_and, gI_sI, gI_sL, gI_sA, gI_sM, gL_sI, gL_sL, gL_sA, gL_sM, aI_sI, aI_sL, aI_sA, aI_sM, aL_sI, aL_sL, aL_sA, aL_sM, BisBits_0, BisBits_6, BisBits_12, BisBits_18, BisBits_22, BisBits_23, oi_0, oi_1, oi_124, oi_38, oi_94]; try dsimp only
          apply hB
          dsimp only [rgo, rfd, BisBits, Nat.beq, rwp, rst, lv_args, rlk, rs1, rs2, rdl, rky, rct, rcs, rcd, rno, rsw, Value.category, List.filter, List.take, List.drop, List.reverse, List.reverseAux, List.cons_append, List.nil_append, Option.toList, Int.toNat, Int.reduceToNat, if_pos, if_neg, reduceIte, ↓reduceIte, Nat.reduceAdd, Nat.reduceEqDiff, Nat.reduceBEq, beq_self_eq_true, Bool.not_true, Bool.not_false, Bool.and_true, Bool.and_false, Bool.true_and, Bool.false_and, gI_sI, gI_sL, gI_sA, gI_sM, gL_sI, gL_sL, gL_sA, gL_sM, aI_sI, aI_sL, aI_sA, aI_sM, aL_sI, aL_sL, aL_sA, aL_sM, BisBits_0, BisBits_6, BisBits_12, BisBits_18, BisBits_22, BisBits_23, oi_0, oi_1, oi_124, oi_38, oi_94]; try dsimp only
          refine ⟨Or.inr rfl, ?_⟩
          exact ⟨_, rfl, Or.inr rfl, rfl⟩
        · apply hB
          dsimp only [rgo, rfd, BisBits, Nat.beq, rwp, rst, lv_args, rlk, rs1, rs2, rdl, rky, rct, rcs, rcd, rno, rsw, Value.category, List.filter, List.take, List.drop, List.reverse, List.reverseAux, List.cons_append, List.nil_append, Option.toList, Int.toNat, Int.reduceToNat, if_pos, if_neg, reduceIte, ↓reduceIte, Nat.reduceAdd, Nat.reduceEqDiff, Nat.reduceBEq, beq_self_eq_true, Bool.not_true, Bool.not_false, Bool.and_true, Bool.and_false, Bool.true_and, Bool.false_and, gI_sI, gI_sL, gI_sA, gI_sM, gL_sI, gL_sL, gL_sA, gL_sM, aI_sI, aI_sL, aI_sA, aI_sM, aL_sI, aL_sL, aL_sA, aL_sM, BisBits_0, BisBits_6, BisBits_12, BisBits_18, BisBits_22, BisBits_23, oi_0, oi_1, oi_124, oi_38, oi_94]; try dsimp only
          refine ⟨fun h3 => ?_, fun h3 => ?_⟩
          · apply hB
            dsimp only [rgo, rfd, BisBits, Nat.beq, rwp, rst, lv_args, rlk, rs1, rs2, rdl, rky, rct, rcs, rcd, rno, rsw, Value.category, List.filter, List.take, List.drop, List.reverse, List.reverseAux, List.cons_append, List.nil_append, Option.toList, Int.toNat, Int.reduceToNat, if_pos, if_neg, reduceIte, ↓reduceIte, Nat.reduceAdd, Nat.reduceEqDiff, Nat.reduceBEq, beq_self_eq_true, Bool.not_true, Bool.not_false, Bool.and_true, Bool.and_false, Bool.true_and, Bool.false_and, gI_sI, gI_sL, gI_sA, gI_sM, gL_sI, gL_sL, gL_sA, gL_sM, aI_sI, aI_sL, aI_sA, aI_sM, aL_sI, aL_sL, aL_sA, aL_sM, BisBits_0, BisBits_6, BisBits_12, BisBits_18, BisBits_22, BisBits_23, oi_0, oi_1, oi_124, oi_38, oi_94]; try dsimp only
            apply hB
            dsimp only [rgo, rfd, BisBits, Nat.beq, rwp, rst, lv_args, rlk, rs1, rs2, rdl, rky, rct, rcs, rcd, rno, rsw, Value.category, List.filter, List.take, List.drop, List.reverse, List.reverseAux, List.cons_append, List.nil_append, Option.toList, Int.toNat, Int.reduceToNat, if_pos, if_neg, reduceIte, ↓reduceIte, Nat.reduceAdd, Nat.reduceEqDiff, Nat.reduceBEq, beq_self_eq_true, Bool.not_true, Bool.not_false, Bool.and_true, Bool.and_false, Bool.true_and, Bool.false_and, gI_sI, gI_sL, gI_sA, gI_sM, gL_sI, gL_sL, gL_sA, gL_sM, aI_sI, aI_sL, aI_sA, aI_sM, aL_sI, aL_sL, aL_sA, aL_sM, BisBits_0, BisBits_6, BisBits_12, BisBits_18, BisBits_22, BisBits_23, oi_0, oi_1, oi_124, oi_38, oi_94]; try dsimp only
            refine ⟨Or.inl rfl, ?_⟩
            exact ⟨_, rfl, Or.inl rfl, rfl⟩
          · apply hB
            dsimp only [rgo, rfd, BisBits, Nat.beq, rwp, rst, lv_args, rlk, rs1, rs2, rdl, rky, rct, rcs, rcd, rno, rsw, Value.category, List.filter, List.take, List.drop, List.reverse, List.reverseAux, List.cons_append, List.nil_append, Option.toList, Int.toNat, Int.reduceToNat, if_pos, if_neg, reduceIte, ↓reduceIte, Nat.reduceAdd, Nat.reduceEqDiff, Nat.reduceBEq, beq_self_eq_true, Bool.not_true, Bool.not_false, Bool.and_true, Bool.and_false, Bool.true_and, Bool.false_and, gI_sI, gI_sL, gI_sA, gI_sM, gL_sI, gL_sL, gL_sA, gL_sM, aI_sI, aI_sL, aI_sA, aI_sM, aL_sI, aL_sL, aL_sA, aL_sM, BisBits_0, BisBits_6, BisBits_12, BisBits_18, BisBits_22, BisBits_23, oi_0, oi_1, oi_124, oi_38, oi_94]; try dsimp only
            apply hB
            dsimp only [rgo, rfd, BisBits, Nat.beq, rwp, rst, lv_args, rlk, rs1, rs2, rdl, rky, rct, rcs, rcd, rno, rsw, Value.category, List.filter, List.take, List.drop, List.reverse, List.reverseAux, List.cons_append, List.nil_append, Option.toList, Int.toNat, Int.reduceToNat, if_pos, if_neg, reduceIte, ↓reduceIte, Nat.reduceAdd, Nat.reduceEqDiff, Nat.reduceBEq, beq_self_eq_true, Bool.not_true, Bool.not_false, Bool.and_true, Bool.and_false, Bool.true_and, Bool.false_and, gI_sI, gI_sL, gI_sA, gI_sM, gL_sI, gL_sL, gL_sA, gL_sM, aI_sI, aI_sL, aI_sA, aI_sM, aL_sI, aL_sL, aL_sA, aL_sM, BisBits_0, BisBits_6, BisBits_12, BisBits_18, BisBits_22, BisBits_23, oi_0, oi_1, oi_124, oi_38, oi_94]; try dsimp only
            refine ⟨Or.inr rfl, ?_⟩
            exact ⟨_, rfl, Or.inr rfl, rfl⟩
    next => exact hP.elim
theorem m_isBits (l : Launch) : RMet l 1 94 P_isBits Q_isBits := by
  refine RMet.by BisBits [] roisBits okBisBits ct0 ?_ b_isBits
  · intro As σ hP
    unfold P_isBits at hP
    split at hP
    next => exact Nat.le_of_ble_eq_true rfl
    next => exact hP.elim
set_option maxRecDepth 100000 in
theorem e_isBits (l : Launch) : RMetE l 1 94 P_isBits Q_isBits := by
  refine RMetE.by BisBits [] rfl rfl roisBits okBisBits ctE0 ?_ b_isBits
  · intro As σ hP
    unfold P_isBits at hP
    split at hP
    next => exact Nat.le_of_ble_eq_true rfl
    next => exact hP.elim
def P_cast : RP := fun As σ => match As with
  | [.int ty, .long v] => True
  | _ => False
def Q_cast : RQ := fun As σ w τ => match As with
  | [.int ty, .long v] => ∃ r : Int64, w = some (.long r) ∧ τ = σ
  | _ => False
set_option maxRecDepth 100000 in
set_option maxHeartbeats 4000000 in
theorem b_cast : Bod Bcast [] P_cast Q_cast := by
  · intro As σ hP G hB hW
    unfold P_cast at hP
    split at hP
    next ty v => 
      unfold Q_cast at hB
      dsimp only at hB
      apply hB
      dsimp only [rgo, rfd, Bcast, Nat.beq, rwp, rst, lv_args, rlk, rs1, rs2, rdl, rky, rct, rcs, rcd, rno, rsw, Value.category, List.filter, List.take, List.drop, List.reverse, List.reverseAux, List.cons_append, List.nil_append, Option.toList, Int.toNat, Int.reduceToNat, if_pos, if_neg, reduceIte, ↓reduceIte, Nat.reduceAdd, Nat.reduceEqDiff, Nat.reduceBEq, beq_self_eq_true, Bool.not_true, Bool.not_false, Bool.and_true, Bool.and_false, Bool.true_and, Bool.false_and, gI_sI, gI_sL, gI_sA, gI_sM, gL_sI, gL_sL, gL_sA, gL_sM, aI_sI, aI_sL, aI_sA, aI_sM, aL_sI, aL_sL, aL_sA, aL_sM, Bcast_0, Bcast_32, Bcast_38, Bcast_42, Bcast_43, Bcast_44, Bcast_49, Bcast_54, Bcast_58]; try dsimp only
      refine ⟨fun h1 => ?_, fun h1 => ?_⟩
      · apply hB
        dsimp only [rgo, rfd, Bcast, Nat.beq, rwp, rst, lv_args, rlk, rs1, rs2, rdl, rky, rct, rcs, rcd, rno, rsw, Value.category, List.filter, List.take, List.drop, List.reverse, List.reverseAux, List.cons_append, List.nil_append, Option.toList, Int.toNat, Int.reduceToNat, if_pos, if_neg, reduceIte, ↓reduceIte, Nat.reduceAdd, Nat.reduceEqDiff, Nat.reduceBEq, beq_self_eq_true, Bool.not_true, Bool.not_false, Bool.and_true, Bool.and_false, Bool.true_and, Bool.false_and, gI_sI, gI_sL, gI_sA, gI_sM, gL_sI, gL_sL, gL_sA, gL_sM, aI_sI, aI_sL, aI_sA, aI_sM, aL_sI, aL_sL, aL_sA, aL_sM, Bcast_0, Bcast_32, Bcast_38, Bcast_42, Bcast_43, Bcast_44, Bcast_49, Bcast_54, Bcast_58]; try dsimp only
        refine ⟨fun h2 => ?_, fun h2 => ?_⟩
        · apply hB
          dsimp only [rgo, rfd, Bcast, Nat.beq, rwp, rst, lv_args, rlk, rs1, rs2, rdl, rky, rct, rcs, rcd, rno, rsw, Value.category, List.filter, List.take, List.drop, List.reverse, List.reverseAux, List.cons_append, List.nil_append, Option.toList, Int.toNat, Int.reduceToNat, if_pos, if_neg, reduceIte, ↓reduceIte, Nat.reduceAdd, Nat.reduceEqDiff, Nat.reduceBEq, beq_self_eq_true, Bool.not_true, Bool.not_false, Bool.and_true, Bool.and_false, Bool.true_and, Bool.false_and, gI_sI, gI_sL, gI_sA, gI_sM, gL_sI, gL_sL, gL_sA, gL_sM, aI_sI, aI_sL, aI_sA, aI_sM, aL_sI, aL_sL, aL_sA, aL_sM, Bcast_0, Bcast_32, Bcast_38, Bcast_42, Bcast_43, Bcast_44, Bcast_49, Bcast_54, Bcast_58]; try dsimp only
          apply hB
          dsimp only [rgo, rfd, Bcast, Nat.beq, rwp, rst, lv_args, rlk, rs1, rs2, rdl, rky, rct, rcs, rcd, rno, rsw, Value.category, List.filter, List.take, List.drop, List.reverse, List.reverseAux, List.cons_append, List.nil_append, Option.toList, Int.toNat, Int.reduceToNat, if_pos, if_neg, reduceIte, ↓reduceIte, Nat.reduceAdd, Nat.reduceEqDiff, Nat.reduceBEq, beq_self_eq_true, Bool.not_true, Bool.not_false, Bool.and_true, Bool.and_false, Bool.true_and, Bool.false_and, gI_sI, gI_sL, gI_sA, gI_sM, gL_sI, gL_sL, gL_sA, gL_sM, aI_sI, aI_sL, aI_sA, aI_sM, aL_sI, aL_sL, aL_sA, aL_sM, Bcast_0, Bcast_32, Bcast_38, Bcast_42, Bcast_43, Bcast_44, Bcast_49, Bcast_54, Bcast_58]; try dsimp only
          exact ⟨_, rfl, rfl⟩
        · apply hB
          dsimp only [rgo, rfd, Bcast, Nat.beq, rwp, rst, lv_args, rlk, rs1, rs2, rdl, rky, rct, rcs, rcd, rno, rsw, Value.category, List.filter, List.take, List.drop, List.reverse, List.reverseAux, List.cons_append, List.nil_append, Option.toList, Int.toNat, Int.reduceToNat, if_pos, if_neg, reduceIte, ↓reduceIte, Nat.reduceAdd, Nat.reduceEqDiff, Nat.reduceBEq, beq_self_eq_true, Bool.not_true, Bool.not_false, Bool.and_true, Bool.and_false, Bool.true_and, Bool.false_and, gI_sI, gI_sL, gI_sA, gI_sM, gL_sI, gL_sL, gL_sA, gL_sM, aI_sI, aI_sL, aI_sA, aI_sM, aL_sI, aL_sL, aL_sA, aL_sM, Bcast_0, Bcast_32, Bcast_38, Bcast_42, Bcast_43, Bcast_44, Bcast_49, Bcast_54, Bcast_58]; try dsimp only
          apply hB
          dsimp only [rgo, rfd, Bcast, Nat.beq, rwp, rst, lv_args, rlk, rs1, rs2, rdl, rky, rct, rcs, rcd, rno, rsw, Value.category, List.filter, List.take, List.drop, List.reverse, List.reverseAux, List.cons_append, List.nil_append, Option.toList, Int.toNat, Int.reduceToNat, if_pos, if_neg, reduceIte, ↓reduceIte, Nat.reduceAdd, Nat.reduceEqDiff, Nat.reduceBEq, beq_self_eq_true, Bool.not_true, Bool.not_false, Bool.and_true, Bool.and_false, Bool.true_and, Bool.false_and, gI_sI, gI_sL, gI_sA, gI_sM, gL_sI, gL_sL, gL_sA, gL_sM, aI_sI, aI_sL, aI_sA, aI_sM, aL_sI, aL_sL, aL_sA, aL_sM, Bcast_0, Bcast_32, Bcast_38, Bcast_42, Bcast_43, Bcast_44, Bcast_49, Bcast_54, Bcast_58]; try dsimp only
          exact ⟨_, rfl, rfl⟩
      refine ⟨fun h3 => ?_, fun h3 => ?_⟩
      · apply hB
        dsimp only [rgo, rfd, Bcast, Nat.beq, rwp, rst, lv_args, rlk, rs1, rs2, rdl, rky, rct, rcs, rcd, rno, rsw, Value.category, List.filter, List.take, List.drop, List.reverse, List.reverseAux, List.cons_append, List.nil_append, Option.toList, Int.toNat, Int.reduceToNat, if_pos, if_neg, reduceIte, ↓reduceIte, Nat.reduceAdd, Nat.reduceEqDiff, Nat.reduceBEq, beq_self_eq_true, Bool.not_true, Bool.not_false, Bool.and_true, Bool.and_false, Bool.true_and, Bool.false_and, gI_sI, gI_sL, gI_sA, gI_sM, gL_sI, gL_sL, gL_sA, gL_sM, aI_sI, aI_sL, aI_sA, aI_sM, aL_sI, aL_sL, aL_sA, aL_sM, Bcast_0, Bcast_32, Bcast_38, Bcast_42, Bcast_43, Bcast_44, Bcast_49, Bcast_54, Bcast_58]; try dsimp only
        exact ⟨_, rfl, rfl⟩
      refine ⟨fun h4 => ?_, fun h4 => ?_⟩
      · apply hB
        dsimp only [rgo, rfd, Bcast, Nat.beq, rwp, rst, lv_args, rlk, rs1, rs2, rdl, rky, rct, rcs, rcd, rno, rsw, Value.category, List.filter, List.take, List.drop, List.reverse, List.reverseAux, List.cons_append, List.nil_append, Option.toList, Int.toNat, Int.reduceToNat, if_pos, if_neg, reduceIte, ↓reduceIte, Nat.reduceAdd, Nat.reduceEqDiff, Nat.reduceBEq, beq_self_eq_true, Bool.not_true, Bool.not_false, Bool.and_true, Bool.and_false, Bool.true_and, Bool.false_and, gI_sI, gI_sL, gI_sA, gI_sM, gL_sI, gL_sL, gL_sA, gL_sM, aI_sI, aI_sL, aI_sA, aI_sM, aL_sI, aL_sL, aL_sA, aL_sM, Bcast_0, Bcast_32, Bcast_38, Bcast_42, Bcast_43, Bcast_44, Bcast_49, Bcast_54, Bcast_58]; try dsimp only
        exact ⟨_, rfl, rfl⟩
      refine ⟨fun h5 => ?_, fun h5 => ?_⟩
      · apply hB
        dsimp only [rgo, rfd, Bcast, Nat.beq, rwp, rst, lv_args, rlk, rs1, rs2, rdl, rky, rct, rcs, rcd, rno, rsw, Value.category, List.filter, List.take, List.drop, List.reverse, List.reverseAux, List.cons_append, List.nil_append, Option.toList, Int.toNat, Int.reduceToNat, if_pos, if_neg, reduceIte, ↓reduceIte, Nat.reduceAdd, Nat.reduceEqDiff, Nat.reduceBEq, beq_self_eq_true, Bool.not_true, Bool.not_false, Bool.and_true, Bool.and_false, Bool.true_and, Bool.false_and, gI_sI, gI_sL, gI_sA, gI_sM, gL_sI, gL_sL, gL_sA, gL_sM, aI_sI, aI_sL, aI_sA, aI_sM, aL_sI, aL_sL, aL_sA, aL_sM, Bcast_0, Bcast_32, Bcast_38, Bcast_42, Bcast_43, Bcast_44, Bcast_49, Bcast_54, Bcast_58]; try dsimp only
        exact ⟨_, rfl, rfl⟩
      apply hB
      dsimp only [rgo, rfd, Bcast, Nat.beq, rwp, rst, lv_args, rlk, rs1, rs2, rdl, rky, rct, rcs, rcd, rno, rsw, Value.category, List.filter, List.take, List.drop, List.reverse, List.reverseAux, List.cons_append, List.nil_append, Option.toList, Int.toNat, Int.reduceToNat, if_pos, if_neg, reduceIte, ↓reduceIte, Nat.reduceAdd, Nat.reduceEqDiff, Nat.reduceBEq, beq_self_eq_true, Bool.not_true, Bool.not_false, Bool.and_true, Bool.and_false, Bool.true_and, Bool.false_and, gI_sI, gI_sL, gI_sA, gI_sM, gL_sI, gL_sL, gL_sA, gL_sM, aI_sI, aI_sL, aI_sA, aI_sM, aL_sI, aL_sL, aL_sA, aL_sM, Bcast_0, Bcast_32, Bcast_38, Bcast_42, Bcast_43, Bcast_44, Bcast_49, Bcast_54, Bcast_58]; try dsimp only
      exact ⟨_, rfl, rfl⟩
    next => exact hP.elim
theorem m_cast (l : Launch) : RMet l 1 76 P_cast Q_cast := by
  refine RMet.by Bcast [] rocast okBcast ct0 ?_ b_cast
  · intro As σ hP
    unfold P_cast at hP
    split at hP
    next => exact Nat.le_of_ble_eq_true rfl
    next => exact hP.elim
set_option maxRecDepth 100000 in
theorem e_cast (l : Launch) : RMetE l 1 76 P_cast Q_cast := by
  refine RMetE.by Bcast [] rfl rfl rocast okBcast ctE0 ?_ b_cast
  · intro As σ hP
    unfold P_cast at hP
    split at hP
    next => exact Nat.le_of_ble_eq_true rfl
    next => exact hP.elim
def P_wordOf : RP := fun As σ => match As with
  | [.long v] => True
  | _ => False
def Q_wordOf : RQ := fun As σ w τ => match As with
  | [.long v] => ∃ r : Int32, w = some (.int r) ∧ τ = σ
  | _ => False
set_option maxRecDepth 100000 in
set_option maxHeartbeats 4000000 in
theorem b_wordOf : Bod BwordOf [] P_wordOf Q_wordOf := by
  · intro As σ hP G hB hW
    unfold P_wordOf at hP
    split at hP
    next v => 
      unfold Q_wordOf at hB
      dsimp only at hB
      apply hB
      dsimp only [rgo, rfd, BwordOf, Nat.beq, rwp, rst, lv_args, rlk, rs1, rs2, rdl, rky, rct, rcs, rcd, rno, rsw, Value.category, List.filter, List.take, List.drop, List.reverse, List.reverseAux, List.cons_append, List.nil_append, Option.toList, Int.toNat, Int.reduceToNat, if_pos, if_neg, reduceIte, ↓reduceIte, Nat.reduceAdd, Nat.reduceEqDiff, Nat.reduceBEq, beq_self_eq_true, Bool.not_true, Bool.not_false, Bool.and_true, Bool.and_false, Bool.true_and, Bool.false_and, gI_sI, gI_sL, gI_sA, gI_sM, gL_sI, gL_sL, gL_sA, gL_sM, aI_sI, aI_sL, aI_sA, aI_sM, aL_sI, aL_sL, aL_sA, aL_sM, BwordOf_0, BwordOf_8, BwordOf_10, BwordOf_18, BwordOf_20, BwordOf_28, BwordOf_30, BwordOf_38, BwordOf_40, BwordOf_48, BwordOf_50, BwordOf_58, BwordOf_60, BwordOf_68, BwordOf_71, BwordOf_79, BwordOf_82, BwordOf_90, BwordOf_93, BwordOf_101, BwordOf_104, BwordOf_112, BwordOf_115, BwordOf_123, BwordOf_126, BwordOf_134, BwordOf_137, BwordOf_145, BwordOf_148, BwordOf_156, BwordOf_159, BwordOf_167, BwordOf_170, BwordOf_178, BwordOf_181, BwordOf_189, BwordOf_192, BwordOf_200, BwordOf_203, BwordOf_211, BwordOf_214, BwordOf_222, BwordOf_225, BwordOf_233, BwordOf_236, BwordOf_244, BwordOf_247, BwordOf_255, BwordOf_260, BwordOf_262, oi_0, oi_1, oi_10, oi_11, oi_12, oi_13, oi_14, oi_15, oi_16, oi_17, oi_18, oi_19, oi_2, oi_20, oi_21, oi_22, oi_23, oi_3, oi_4, oi_5, oi_6, oi_7, oi_8, oi_9, oi_m2]; try dsimp only
      refine ⟨fun h1 => ?_, fun h1 => ?_⟩
      · apply hB
        dsimp only [rgo, rfd, BwordOf, Nat.beq, rwp, rst, lv_args, rlk, rs1, rs2, rdl, rky, rct, rcs, rcd, rno, rsw, Value.category, List.filter, List.take, List.drop, List.reverse, List.reverseAux, List.cons_append, List.nil_append, Option.toList, Int.toNat, Int.reduceToNat, if_pos, if_neg, reduceIte, ↓reduceIte, Nat.reduceAdd, Nat.reduceEqDiff, Nat.reduceBEq, beq_self_eq_true, Bool.not_true, Bool.not_false, Bool.and_true, Bool.and_false, Bool.true_and, Bool.false_and, gI_sI, gI_sL, gI_sA, gI_sM, gL_sI, gL_sL, gL_sA, gL_sM, aI_sI, aI_sL, aI_sA, aI_sM, aL_sI, aL_sL, aL_sA, aL_sM, BwordOf_0, BwordOf_8, BwordOf_10, BwordOf_18, BwordOf_20, BwordOf_28, BwordOf_30, BwordOf_38, BwordOf_40, BwordOf_48, BwordOf_50, BwordOf_58, BwordOf_60, BwordOf_68, BwordOf_71, BwordOf_79, BwordOf_82, BwordOf_90, BwordOf_93, BwordOf_101, BwordOf_104, BwordOf_112, BwordOf_115, BwordOf_123, BwordOf_126, BwordOf_134, BwordOf_137, BwordOf_145, BwordOf_148, BwordOf_156, BwordOf_159, BwordOf_167, BwordOf_170, BwordOf_178, BwordOf_181, BwordOf_189, BwordOf_192, BwordOf_200, BwordOf_203, BwordOf_211, BwordOf_214, BwordOf_222, BwordOf_225, BwordOf_233, BwordOf_236, BwordOf_244, BwordOf_247, BwordOf_255, BwordOf_260, BwordOf_262, oi_0, oi_1, oi_10, oi_11, oi_12, oi_13, oi_14, oi_15, oi_16, oi_17, oi_18, oi_19, oi_2, oi_20, oi_21, oi_22, oi_23, oi_3, oi_4, oi_5, oi_6, oi_7, oi_8, oi_9, oi_m2]; try dsimp only
        refine ⟨fun h2 => ?_, fun h2 => ?_⟩
        · apply hB
          dsimp only [rgo, rfd, BwordOf, Nat.beq, rwp, rst, lv_args, rlk, rs1, rs2, rdl, rky, rct, rcs, rcd, rno, rsw, Value.category, List.filter, List.take, List.drop, List.reverse, List.reverseAux, List.cons_append, List.nil_append, Option.toList, Int.toNat, Int.reduceToNat, if_pos, if_neg, reduceIte, ↓reduceIte, Nat.reduceAdd, Nat.reduceEqDiff, Nat.reduceBEq, beq_self_eq_true, Bool.not_true, Bool.not_false, Bool.and_true, Bool.and_false, Bool.true_and, Bool.false_and, gI_sI, gI_sL, gI_sA, gI_sM, gL_sI, gL_sL, gL_sA, gL_sM, aI_sI, aI_sL, aI_sA, aI_sM, aL_sI, aL_sL, aL_sA, aL_sM, BwordOf_0, BwordOf_8, BwordOf_10, BwordOf_18, BwordOf_20, BwordOf_28, BwordOf_30, BwordOf_38, BwordOf_40, BwordOf_48, BwordOf_50, BwordOf_58, BwordOf_60, BwordOf_68, BwordOf_71, BwordOf_79, BwordOf_82, BwordOf_90, BwordOf_93, BwordOf_101, BwordOf_104, BwordOf_112, BwordOf_115, BwordOf_123, BwordOf_126, BwordOf_134, BwordOf_137, BwordOf_145, BwordOf_148, BwordOf_156, BwordOf_159, BwordOf_167, BwordOf_170, BwordOf_178, BwordOf_181, BwordOf_189, BwordOf_192, BwordOf_200, BwordOf_203, BwordOf_211, BwordOf_214, BwordOf_222, BwordOf_225, BwordOf_233, BwordOf_236, BwordOf_244, BwordOf_247, BwordOf_255, BwordOf_260, BwordOf_262, oi_0, oi_1, oi_10, oi_11, oi_12, oi_13, oi_14, oi_15, oi_16, oi_17, oi_18, oi_19, oi_2, oi_20, oi_21, oi_22, oi_23, oi_3, oi_4, oi_5, oi_6, oi_7, oi_8, oi_9, oi_m2]; try dsimp only
          refine ⟨fun h3 => ?_, fun h3 => ?_⟩
          · apply hB
            dsimp only [rgo, rfd, BwordOf, Nat.beq, rwp, rst, lv_args, rlk, rs1, rs2, rdl, rky, rct, rcs, rcd, rno, rsw, Value.category, List.filter, List.take, List.drop, List.reverse, List.reverseAux, List.cons_append, List.nil_append, Option.toList, Int.toNat, Int.reduceToNat, if_pos, if_neg, reduceIte, ↓reduceIte, Nat.reduceAdd, Nat.reduceEqDiff, Nat.reduceBEq, beq_self_eq_true, Bool.not_true, Bool.not_false, Bool.and_true, Bool.and_false, Bool.true_and, Bool.false_and, gI_sI, gI_sL, gI_sA, gI_sM, gL_sI, gL_sL, gL_sA, gL_sM, aI_sI, aI_sL, aI_sA, aI_sM, aL_sI, aL_sL, aL_sA, aL_sM, BwordOf_0, BwordOf_8, BwordOf_10, BwordOf_18, BwordOf_20, BwordOf_28, BwordOf_30, BwordOf_38, BwordOf_40, BwordOf_48, BwordOf_50, BwordOf_58, BwordOf_60, BwordOf_68, BwordOf_71, BwordOf_79, BwordOf_82, BwordOf_90, BwordOf_93, BwordOf_101, BwordOf_104, BwordOf_112, BwordOf_115, BwordOf_123, BwordOf_126, BwordOf_134, BwordOf_137, BwordOf_145, BwordOf_148, BwordOf_156, BwordOf_159, BwordOf_167, BwordOf_170, BwordOf_178, BwordOf_181, BwordOf_189, BwordOf_192, BwordOf_200, BwordOf_203, BwordOf_211, BwordOf_214, BwordOf_222, BwordOf_225, BwordOf_233, BwordOf_236, BwordOf_244, BwordOf_247, BwordOf_255, BwordOf_260, BwordOf_262, oi_0, oi_1, oi_10, oi_11, oi_12, oi_13, oi_14, oi_15, oi_16, oi_17, oi_18, oi_19, oi_2, oi_20, oi_21, oi_22, oi_23, oi_3, oi_4, oi_5, oi_6, oi_7, oi_8, oi_9, oi_m2]; try dsimp only
            refine ⟨fun h4 => ?_, fun h4 => ?_⟩
            · apply hB
              dsimp only [rgo, rfd, BwordOf, Nat.beq, rwp, rst, lv_args, rlk, rs1, rs2, rdl, rky, rct, rcs, rcd, rno, rsw, Value.category, List.filter, List.take, List.drop, List.reverse, List.reverseAux, List.cons_append, List.nil_append, Option.toList, Int.toNat, Int.reduceToNat, if_pos, if_neg, reduceIte, ↓reduceIte, Nat.reduceAdd, Nat.reduceEqDiff, Nat.reduceBEq, beq_self_eq_true, Bool.not_true, Bool.not_false, Bool.and_true, Bool.and_false, Bool.true_and, Bool.false_and, gI_sI, gI_sL, gI_sA, gI_sM, gL_sI, gL_sL, gL_sA, gL_sM, aI_sI, aI_sL, aI_sA, aI_sM, aL_sI, aL_sL, aL_sA, aL_sM, BwordOf_0, BwordOf_8, BwordOf_10, BwordOf_18, BwordOf_20, BwordOf_28, BwordOf_30, BwordOf_38, BwordOf_40, BwordOf_48, BwordOf_50, BwordOf_58, BwordOf_60, BwordOf_68, BwordOf_71, BwordOf_79, BwordOf_82, BwordOf_90, BwordOf_93, BwordOf_101, BwordOf_104, BwordOf_112, BwordOf_115, BwordOf_123, BwordOf_126, BwordOf_134, BwordOf_137, BwordOf_145, BwordOf_148, BwordOf_156, BwordOf_159, BwordOf_167, BwordOf_170, BwordOf_178, BwordOf_181, BwordOf_189, BwordOf_192, BwordOf_200, BwordOf_203, BwordOf_211, BwordOf_214, BwordOf_222, BwordOf_225, BwordOf_233, BwordOf_236, BwordOf_244, BwordOf_247, BwordOf_255, BwordOf_260, BwordOf_262, oi_0, oi_1, oi_10, oi_11, oi_12, oi_13, oi_14, oi_15, oi_16, oi_17, oi_18, oi_19, oi_2, oi_20, oi_21, oi_22, oi_23, oi_3, oi_4, oi_5, oi_6, oi_7, oi_8, oi_9, oi_m2]; try dsimp only
              refine ⟨fun h5 => ?_, fun h5 => ?_⟩
              · apply hB
                dsimp only [rgo, rfd, BwordOf, Nat.beq, rwp, rst, lv_args, rlk, rs1, rs2, rdl, rky, rct, rcs, rcd, rno, rsw, Value.category, List.filter, List.take, List.drop, List.reverse, List.reverseAux, List.cons_append, List.nil_append, Option.toList, Int.toNat, Int.reduceToNat, if_pos, if_neg, reduceIte, ↓reduceIte, Nat.reduceAdd, Nat.reduceEqDiff, Nat.reduceBEq, beq_self_eq_true, Bool.not_true, Bool.not_false, Bool.and_true, Bool.and_false, Bool.true_and, Bool.false_and, gI_sI, gI_sL, gI_sA, gI_sM, gL_sI, gL_sL, gL_sA, gL_sM, aI_sI, aI_sL, aI_sA, aI_sM, aL_sI, aL_sL, aL_sA, aL_sM, BwordOf_0, BwordOf_8, BwordOf_10, BwordOf_18, BwordOf_20, BwordOf_28, BwordOf_30, BwordOf_38, BwordOf_40, BwordOf_48, BwordOf_50, BwordOf_58, BwordOf_60, BwordOf_68, BwordOf_71, BwordOf_79, BwordOf_82, BwordOf_90, BwordOf_93, BwordOf_101, BwordOf_104, BwordOf_112, BwordOf_115, BwordOf_123, BwordOf_126, BwordOf_134, BwordOf_137, BwordOf_145, BwordOf_148, BwordOf_156, BwordOf_159, BwordOf_167, BwordOf_170, BwordOf_178, BwordOf_181, BwordOf_189, BwordOf_192, BwordOf_200, BwordOf_203, BwordOf_211, BwordOf_214, BwordOf_222, BwordOf_225, BwordOf_233, BwordOf_236, BwordOf_244, BwordOf_247, BwordOf_255, BwordOf_260, BwordOf_262, oi_0, oi_1, oi_10, oi_11, oi_12, oi_13, oi_14, oi_15, oi_16, oi_17, oi_18, oi_19, oi_2, oi_20, oi_21, oi_22, oi_23, oi_3, oi_4, oi_5, oi_6, oi_7, oi_8, oi_9, oi_m2]; try dsimp only
                refine ⟨fun h6 => ?_, fun h6 => ?_⟩
                · apply hB
                  dsimp only [rgo, rfd, BwordOf, Nat.beq, rwp, rst, lv_args, rlk, rs1, rs2, rdl, rky, rct, rcs, rcd, rno, rsw, Value.category, List.filter, List.take, List.drop, List.reverse, List.reverseAux, List.cons_append, List.nil_append, Option.toList, Int.toNat, Int.reduceToNat, if_pos, if_neg, reduceIte, ↓reduceIte, Nat.reduceAdd, Nat.reduceEqDiff, Nat.reduceBEq, beq_self_eq_true, Bool.not_true, Bool.not_false, Bool.and_true, Bool.and_false, Bool.true_and, Bool.false_and, gI_sI, gI_sL, gI_sA, gI_sM, gL_sI, gL_sL, gL_sA, gL_sM, aI_sI, aI_sL, aI_sA, aI_sM, aL_sI, aL_sL, aL_sA, aL_sM, BwordOf_0, BwordOf_8, BwordOf_10, BwordOf_18, BwordOf_20, BwordOf_28, BwordOf_30, BwordOf_38, BwordOf_40, BwordOf_48, BwordOf_50, BwordOf_58, BwordOf_60, BwordOf_68, BwordOf_71, BwordOf_79, BwordOf_82, BwordOf_90, BwordOf_93, BwordOf_101, BwordOf_104, BwordOf_112, BwordOf_115, BwordOf_123, BwordOf_126, BwordOf_134, BwordOf_137, BwordOf_145, BwordOf_148, BwordOf_156, BwordOf_159, BwordOf_167, BwordOf_170, BwordOf_178, BwordOf_181, BwordOf_189, BwordOf_192, BwordOf_200, BwordOf_203, BwordOf_211, BwordOf_214, BwordOf_222, BwordOf_225, BwordOf_233, BwordOf_236, BwordOf_244, BwordOf_247, BwordOf_255, BwordOf_260, BwordOf_262, oi_0, oi_1, oi_10, oi_11, oi_12, oi_13, oi_14, oi_15, oi_16, oi_17, oi_18, oi_19, oi_2, oi_20, oi_21, oi_22, oi_23, oi_3, oi_4, oi_5, oi_6, oi_7, oi_8, oi_9, oi_m2]; try dsimp only
                  refine ⟨fun h7 => ?_, fun h7 => ?_⟩
                  · apply hB
                    dsimp only [rgo, rfd, BwordOf, Nat.beq, rwp, rst, lv_args, rlk, rs1, rs2, rdl, rky, rct, rcs, rcd, rno, rsw, Value.category, List.filter, List.take, List.drop, List.reverse, List.reverseAux, List.cons_append, List.nil_append, Option.toList, Int.toNat, Int.reduceToNat, if_pos, if_neg, reduceIte, ↓reduceIte, Nat.reduceAdd, Nat.reduceEqDiff, Nat.reduceBEq, beq_self_eq_true, Bool.not_true, Bool.not_false, Bool.and_true, Bool.and_false, Bool.true_and, Bool.false_and, gI_sI, gI_sL, gI_sA, gI_sM, gL_sI, gL_sL, gL_sA, gL_sM, aI_sI, aI_sL, aI_sA, aI_sM, aL_sI, aL_sL, aL_sA, aL_sM, BwordOf_0, BwordOf_8, BwordOf_10, BwordOf_18, BwordOf_20, BwordOf_28, BwordOf_30, BwordOf_38, BwordOf_40, BwordOf_48, BwordOf_50, BwordOf_58, BwordOf_60, BwordOf_68, BwordOf_71, BwordOf_79, BwordOf_82, BwordOf_90, BwordOf_93, BwordOf_101, BwordOf_104, BwordOf_112, BwordOf_115, BwordOf_123, BwordOf_126, BwordOf_134, BwordOf_137, BwordOf_145, BwordOf_148, BwordOf_156, BwordOf_159, BwordOf_167, BwordOf_170, BwordOf_178, BwordOf_181, BwordOf_189, BwordOf_192, BwordOf_200, BwordOf_203, BwordOf_211, BwordOf_214, BwordOf_222, BwordOf_225, BwordOf_233, BwordOf_236, BwordOf_244, BwordOf_247, BwordOf_255, BwordOf_260, BwordOf_262, oi_0, oi_1, oi_10, oi_11, oi_12, oi_13, oi_14, oi_15, oi_16, oi_17, oi_18, oi_19, oi_2, oi_20, oi_21, oi_22, oi_23, oi_3, oi_4, oi_5, oi_6, oi_7, oi_8, oi_9, oi_m2]; try dsimp only
                    refine ⟨fun h8 => ?_, fun h8 => ?_⟩
                    · apply hB
                      dsimp only [rgo, rfd, BwordOf, Nat.beq, rwp, rst, lv_args, rlk, rs1, rs2, rdl, rky, rct, rcs, rcd, rno, rsw, Value.category, List.filter, List.take, List.drop, List.reverse, List.reverseAux, List.cons_append, List.nil_append, Option.toList, Int.toNat, Int.reduceToNat, if_pos, if_neg, reduceIte, ↓reduceIte, Nat.reduceAdd, Nat.reduceEqDiff, Nat.reduceBEq, beq_self_eq_true, Bool.not_true, Bool.not_false, Bool.and_true, Bool.and_false, Bool.true_and, Bool.false_and, gI_sI, gI_sL, gI_sA, gI_sM, gL_sI, gL_sL, gL_sA, gL_sM, aI_sI, aI_sL, aI_sA, aI_sM, aL_sI, aL_sL, aL_sA, aL_sM, BwordOf_0, BwordOf_8, BwordOf_10, BwordOf_18, BwordOf_20, BwordOf_28, BwordOf_30, BwordOf_38, BwordOf_40, BwordOf_48, BwordOf_50, BwordOf_58, BwordOf_60, BwordOf_68, BwordOf_71, BwordOf_79, BwordOf_82, BwordOf_90, BwordOf_93, BwordOf_101, BwordOf_104, BwordOf_112, BwordOf_115, BwordOf_123, BwordOf_126, BwordOf_134, BwordOf_137, BwordOf_145, BwordOf_148, BwordOf_156, BwordOf_159, BwordOf_167, BwordOf_170, BwordOf_178, BwordOf_181, BwordOf_189, BwordOf_192, BwordOf_200, BwordOf_203, BwordOf_211, BwordOf_214, BwordOf_222, BwordOf_225, BwordOf_233, BwordOf_236, BwordOf_244, BwordOf_247, BwordOf_255, BwordOf_260, BwordOf_262, oi_0, oi_1, oi_10, oi_11, oi_12, oi_13, oi_14, oi_15, oi_16, oi_17, oi_18, oi_19, oi_2, oi_20, oi_21, oi_22, oi_23, oi_3, oi_4, oi_5, oi_6, oi_7, oi_8, oi_9, oi_m2]; try dsimp only
                      refine ⟨fun h9 => ?_, fun h9 => ?_⟩
                      · apply hB
                        dsimp only [rgo, rfd, BwordOf, Nat.beq, rwp, rst, lv_args, rlk, rs1, rs2, rdl, rky, rct, rcs, rcd, rno, rsw, Value.category, List.filter, List.take, List.drop, List.reverse, List.reverseAux, List.cons_append, List.nil_append, Option.toList, Int.toNat, Int.reduceToNat, if_pos, if_neg, reduceIte, ↓reduceIte, Nat.reduceAdd, Nat.reduceEqDiff, Nat.reduceBEq, beq_self_eq_true, Bool.not_true, Bool.not_false, Bool.and_true, Bool.and_false, Bool.true_and, Bool.false_and, gI_sI, gI_sL, gI_sA, gI_sM, gL_sI, gL_sL, gL_sA, gL_sM, aI_sI, aI_sL, aI_sA, aI_sM, aL_sI, aL_sL, aL_sA, aL_sM, BwordOf_0, BwordOf_8, BwordOf_10, BwordOf_18, BwordOf_20, BwordOf_28, BwordOf_30, BwordOf_38, BwordOf_40, BwordOf_48, BwordOf_50, BwordOf_58, BwordOf_60, BwordOf_68, BwordOf_71, BwordOf_79, BwordOf_82, BwordOf_90, BwordOf_93, BwordOf_101, BwordOf_104, BwordOf_112, BwordOf_115, BwordOf_123, BwordOf_126, BwordOf_134, BwordOf_137, BwordOf_145, BwordOf_148, BwordOf_156, BwordOf_159, BwordOf_167, BwordOf_170, BwordOf_178, BwordOf_181, BwordOf_189, BwordOf_192, BwordOf_200, BwordOf_203, BwordOf_211, BwordOf_214, BwordOf_222, BwordOf_225, BwordOf_233, BwordOf_236, BwordOf_244, BwordOf_247, BwordOf_255, BwordOf_260, BwordOf_262, oi_0, oi_1, oi_10, oi_11, oi_12, oi_13, oi_14, oi_15, oi_16, oi_17, oi_18, oi_19, oi_2, oi_20, oi_21, oi_22, oi_23, oi_3, oi_4, oi_5, oi_6, oi_7, oi_8, oi_9, oi_m2]; try dsimp only
                        refine ⟨fun h10 => ?_, fun h10 => ?_⟩
                        · apply hB
                          dsimp only [rgo, rfd, BwordOf, Nat.beq, rwp, rst, lv_args, rlk, rs1, rs2, rdl, rky, rct, rcs, rcd, rno, rsw, Value.category, List.filter, List.take, List.drop, List.reverse, List.reverseAux, List.cons_append, List.nil_append, Option.toList, Int.toNat, Int.reduceToNat, if_pos, if_neg, reduceIte, ↓reduceIte, Nat.reduceAdd, Nat.reduceEqDiff, Nat.reduceBEq, beq_self_eq_true, Bool.not_true, Bool.not_false, Bool.and_true, Bool.and_false, Bool.true_and, Bool.false_and, gI_sI, gI_sL, gI_sA, gI_sM, gL_sI, gL_sL, gL_sA, gL_sM, aI_sI, aI_sL, aI_sA, aI_sM, aL_sI, aL_sL, aL_sA, aL_sM, BwordOf_0, BwordOf_8, BwordOf_10, BwordOf_18, BwordOf_20, BwordOf_28, BwordOf_30, BwordOf_38, BwordOf_40, BwordOf_48, BwordOf_50, BwordOf_58, BwordOf_60, BwordOf_68, BwordOf_71, BwordOf_79, BwordOf_82, BwordOf_90, BwordOf_93, BwordOf_101, BwordOf_104, BwordOf_112, BwordOf_115, BwordOf_123, BwordOf_126, BwordOf_134, BwordOf_137, BwordOf_145, BwordOf_148, BwordOf_156, BwordOf_159, BwordOf_167, BwordOf_170, BwordOf_178, BwordOf_181, BwordOf_189, BwordOf_192, BwordOf_200, BwordOf_203, BwordOf_211, BwordOf_214, BwordOf_222, BwordOf_225, BwordOf_233, BwordOf_236, BwordOf_244, BwordOf_247, BwordOf_255, BwordOf_260, BwordOf_262, oi_0, oi_1, oi_10, oi_11, oi_12, oi_13, oi_14, oi_15, oi_16, oi_17, oi_18, oi_19, oi_2, oi_20, oi_21, oi_22, oi_23, oi_3, oi_4, oi_5, oi_6, oi_7, oi_8, oi_9, oi_m2]; try dsimp only
                          refine ⟨fun h11 => ?_, fun h11 => ?_⟩
                          · apply hB
                            dsimp only [rgo, rfd, BwordOf, Nat.beq, rwp, rst, lv_args, rlk, rs1, rs2, rdl, rky, rct, rcs, rcd, rno, rsw, Value.category, List.filter, List.take, List.drop, List.reverse, List.reverseAux, List.cons_append, List.nil_append, Option.toList, Int.toNat, Int.reduceToNat, if_pos, if_neg, reduceIte, ↓reduceIte, Nat.reduceAdd, Nat.reduceEqDiff, Nat.reduceBEq, beq_self_eq_true, Bool.not_true, Bool.not_false, Bool.and_true, Bool.and_false, Bool.true_and, Bool.false_and, gI_sI, gI_sL, gI_sA, gI_sM, gL_sI, gL_sL, gL_sA, gL_sM, aI_sI, aI_sL, aI_sA, aI_sM, aL_sI, aL_sL, aL_sA, aL_sM, BwordOf_0, BwordOf_8, BwordOf_10, BwordOf_18, BwordOf_20, BwordOf_28, BwordOf_30, BwordOf_38, BwordOf_40, BwordOf_48, BwordOf_50, BwordOf_58, BwordOf_60, BwordOf_68, BwordOf_71, BwordOf_79, BwordOf_82, BwordOf_90, BwordOf_93, BwordOf_101, BwordOf_104, BwordOf_112, BwordOf_115, BwordOf_123, BwordOf_126, BwordOf_134, BwordOf_137, BwordOf_145, BwordOf_148, BwordOf_156, BwordOf_159, BwordOf_167, BwordOf_170, BwordOf_178, BwordOf_181, BwordOf_189, BwordOf_192, BwordOf_200, BwordOf_203, BwordOf_211, BwordOf_214, BwordOf_222, BwordOf_225, BwordOf_233, BwordOf_236, BwordOf_244, BwordOf_247, BwordOf_255, BwordOf_260, BwordOf_262, oi_0, oi_1, oi_10, oi_11, oi_12, oi_13, oi_14, oi_15, oi_16, oi_17, oi_18, oi_19, oi_2, oi_20, oi_21, oi_22, oi_23, oi_3, oi_4, oi_5, oi_6, oi_7, oi_8, oi_9, oi_m2]; try dsimp only
                            refine ⟨fun h12 => ?_, fun h12 => ?_⟩
                            · apply hB
                              dsimp only [rgo, rfd, BwordOf, Nat.beq, rwp, rst, lv_args, rlk, rs1, rs2, rdl, rky, rct, rcs, rcd, rno, rsw, Value.category, List.filter, List.take, List.drop, List.reverse, List.reverseAux, List.cons_append, List.nil_append, Option.toList, Int.toNat, Int.reduceToNat, if_pos, if_neg, reduceIte, ↓reduceIte, Nat.reduceAdd, Nat.reduceEqDiff, Nat.reduceBEq, beq_self_eq_true, Bool.not_true, Bool.not_false, Bool.and_true, Bool.and_false, Bool.true_and, Bool.false_and, gI_sI, gI_sL, gI_sA, gI_sM, gL_sI, gL_sL, gL_sA, gL_sM, aI_sI, aI_sL, aI_sA, aI_sM, aL_sI, aL_sL, aL_sA, aL_sM, BwordOf_0, BwordOf_8, BwordOf_10, BwordOf_18, BwordOf_20, BwordOf_28, BwordOf_30, BwordOf_38, BwordOf_40, BwordOf_48, BwordOf_50, BwordOf_58, BwordOf_60, BwordOf_68, BwordOf_71, BwordOf_79, BwordOf_82, BwordOf_90, BwordOf_93, BwordOf_101, BwordOf_104, BwordOf_112, BwordOf_115, BwordOf_123, BwordOf_126, BwordOf_134, BwordOf_137, BwordOf_145, BwordOf_148, BwordOf_156, BwordOf_159, BwordOf_167, BwordOf_170, BwordOf_178, BwordOf_181, BwordOf_189, BwordOf_192, BwordOf_200, BwordOf_203, BwordOf_211, BwordOf_214, BwordOf_222, BwordOf_225, BwordOf_233, BwordOf_236, BwordOf_244, BwordOf_247, BwordOf_255, BwordOf_260, BwordOf_262, oi_0, oi_1, oi_10, oi_11, oi_12, oi_13, oi_14, oi_15, oi_16, oi_17, oi_18, oi_19, oi_2, oi_20, oi_21, oi_22, oi_23, oi_3, oi_4, oi_5, oi_6, oi_7, oi_8, oi_9, oi_m2]; try dsimp only
                              refine ⟨fun h13 => ?_, fun h13 => ?_⟩
                              · apply hB
                                dsimp only [rgo, rfd, BwordOf, Nat.beq, rwp, rst, lv_args, rlk, rs1, rs2, rdl, rky, rct, rcs, rcd, rno, rsw, Value.category, List.filter, List.take, List.drop, List.reverse, List.reverseAux, List.cons_append, List.nil_append, Option.toList, Int.toNat, Int.reduceToNat, if_pos, if_neg, reduceIte, ↓reduceIte, Nat.reduceAdd, Nat.reduceEqDiff, Nat.reduceBEq, beq_self_eq_true, Bool.not_true, Bool.not_false, Bool.and_true, Bool.and_false, Bool.true_and, Bool.false_and, gI_sI, gI_sL, gI_sA, gI_sM, gL_sI, gL_sL, gL_sA, gL_sM, aI_sI, aI_sL, aI_sA, aI_sM, aL_sI, aL_sL, aL_sA, aL_sM, BwordOf_0, BwordOf_8, BwordOf_10, BwordOf_18, BwordOf_20, BwordOf_28, BwordOf_30, BwordOf_38, BwordOf_40, BwordOf_48, BwordOf_50, BwordOf_58, BwordOf_60, BwordOf_68, BwordOf_71, BwordOf_79, BwordOf_82, BwordOf_90, BwordOf_93, BwordOf_101, BwordOf_104, BwordOf_112, BwordOf_115, BwordOf_123, BwordOf_126, BwordOf_134, BwordOf_137, BwordOf_145, BwordOf_148, BwordOf_156, BwordOf_159, BwordOf_167, BwordOf_170, BwordOf_178, BwordOf_181, BwordOf_189, BwordOf_192, BwordOf_200, BwordOf_203, BwordOf_211, BwordOf_214, BwordOf_222, BwordOf_225, BwordOf_233, BwordOf_236, BwordOf_244, BwordOf_247, BwordOf_255, BwordOf_260, BwordOf_262, oi_0, oi_1, oi_10, oi_11, oi_12, oi_13, oi_14, oi_15, oi_16, oi_17, oi_18, oi_19, oi_2, oi_20, oi_21, oi_22, oi_23, oi_3, oi_4, oi_5, oi_6, oi_7, oi_8, oi_9, oi_m2]; try dsimp only
                                refine ⟨fun h14 => ?_, fun h14 => ?_⟩
                                · apply hB
                                  dsimp only [rgo, rfd, BwordOf, Nat.beq, rwp, rst, lv_args, rlk, rs1, rs2, rdl, rky, rct, rcs, rcd, rno, rsw, Value.category, List.filter, List.take, List.drop, List.reverse, List.reverseAux, List.cons_append, List.nil_append, Option.toList, Int.toNat, Int.reduceToNat, if_pos, if_neg, reduceIte, ↓reduceIte, Nat.reduceAdd, Nat.reduceEqDiff, Nat.reduceBEq, beq_self_eq_true, Bool.not_true, Bool.not_false, Bool.and_true, Bool.and_false, Bool.true_and, Bool.false_and, gI_sI, gI_sL, gI_sA, gI_sM, gL_sI, gL_sL, gL_sA, gL_sM, aI_sI, aI_sL, aI_sA, aI_sM, aL_sI, aL_sL, aL_sA, aL_sM, BwordOf_0, BwordOf_8, BwordOf_10, BwordOf_18, BwordOf_20, BwordOf_28, BwordOf_30, BwordOf_38, BwordOf_40, BwordOf_48, BwordOf_50, BwordOf_58, BwordOf_60, BwordOf_68, BwordOf_71, BwordOf_79, BwordOf_82, BwordOf_90, BwordOf_93, BwordOf_101, BwordOf_104, BwordOf_112, BwordOf_115, BwordOf_123, BwordOf_126, BwordOf_134, BwordOf_137, BwordOf_145, BwordOf_148, BwordOf_156, BwordOf_159, BwordOf_167, BwordOf_170, BwordOf_178, BwordOf_181, BwordOf_189, BwordOf_192, BwordOf_200, BwordOf_203, BwordOf_211, BwordOf_214, BwordOf_222, BwordOf_225, BwordOf_233, BwordOf_236, BwordOf_244, BwordOf_247, BwordOf_255, BwordOf_260, BwordOf_262, oi_0, oi_1, oi_10, oi_11, oi_12, oi_13, oi_14, oi_15, oi_16, oi_17, oi_18, oi_19, oi_2, oi_20, oi_21, oi_22, oi_23, oi_3, oi_4, oi_5, oi_6, oi_7, oi_8, oi_9, oi_m2]; try dsimp only
                                  refine ⟨fun h15 => ?_, fun h15 => ?_⟩
                                  · apply hB
                                    dsimp only [rgo, rfd, BwordOf, Nat.beq, rwp, rst, lv_args, rlk, rs1, rs2, rdl, rky, rct, rcs, rcd, rno, rsw, Value.category, List.filter, List.take, List.drop, List.reverse, List.reverseAux, List.cons_append, List.nil_append, Option.toList, Int.toNat, Int.reduceToNat, if_pos, if_neg, reduceIte, ↓reduceIte, Nat.reduceAdd, Nat.reduceEqDiff, Nat.reduceBEq, beq_self_eq_true, Bool.not_true, Bool.not_false, Bool.and_true, Bool.and_false, Bool.true_and, Bool.false_and, gI_sI, gI_sL, gI_sA, gI_sM, gL_sI, gL_sL, gL_sA, gL_sM, aI_sI, aI_sL, aI_sA, aI_sM, aL_sI, aL_sL, aL_sA, aL_sM, BwordOf_0, BwordOf_8, BwordOf_10, BwordOf_18, BwordOf_20, BwordOf_28, BwordOf_30, BwordOf_38, BwordOf_40, BwordOf_48, BwordOf_50, BwordOf_58, BwordOf_60, BwordOf_68, BwordOf_71, BwordOf_79, BwordOf_82, BwordOf_90, BwordOf_93, BwordOf_101, BwordOf_104, BwordOf_112, BwordOf_115, BwordOf_123, BwordOf_126, BwordOf_134, BwordOf_137, BwordOf_145, BwordOf_148, BwordOf_156, BwordOf_159, BwordOf_167, BwordOf_170, BwordOf_178, BwordOf_181, BwordOf_189, BwordOf_192, BwordOf_200, BwordOf_203, BwordOf_211, BwordOf_214, BwordOf_222, BwordOf_225, BwordOf_233, BwordOf_236, BwordOf_244, BwordOf_247, BwordOf_255, BwordOf_260, BwordOf_262, oi_0, oi_1, oi_10, oi_11, oi_12, oi_13, oi_14, oi_15, oi_16, oi_17, oi_18, oi_19, oi_2, oi_20, oi_21, oi_22, oi_23, oi_3, oi_4, oi_5, oi_6, oi_7, oi_8, oi_9, oi_m2]; try dsimp only
                                    refine ⟨fun h16 => ?_, fun h16 => ?_⟩
                                    · apply hB
                                      dsimp only [rgo, rfd, BwordOf, Nat.beq, rwp, rst, lv_args, rlk, rs1, rs2, rdl, rky, rct, rcs, rcd, rno, rsw, Value.category, List.filter, List.take, List.drop, List.reverse, List.reverseAux, List.cons_append, List.nil_append, Option.toList, Int.toNat, Int.reduceToNat, if_pos, if_neg, reduceIte, ↓reduceIte, Nat.reduceAdd, Nat.reduceEqDiff, Nat.reduceBEq, beq_self_eq_true, Bool.not_true, Bool.not_false, Bool.and_true, Bool.and_false, Bool.true_and, Bool.false_and, gI_sI, gI_sL, gI_sA, gI_sM, gL_sI, gL_sL, gL_sA, gL_sM, aI_sI, aI_sL, aI_sA, aI_sM, aL_sI, aL_sL, aL_sA, aL_sM, BwordOf_0, BwordOf_8, BwordOf_10, BwordOf_18, BwordOf_20, BwordOf_28, BwordOf_30, BwordOf_38, BwordOf_40, BwordOf_48, BwordOf_50, BwordOf_58, BwordOf_60, BwordOf_68, BwordOf_71, BwordOf_79, BwordOf_82, BwordOf_90, BwordOf_93, BwordOf_101, BwordOf_104, BwordOf_112, BwordOf_115, BwordOf_123, BwordOf_126, BwordOf_134, BwordOf_137, BwordOf_145, BwordOf_148, BwordOf_156, BwordOf_159, BwordOf_167, BwordOf_170, BwordOf_178, BwordOf_181, BwordOf_189, BwordOf_192, BwordOf_200, BwordOf_203, BwordOf_211, BwordOf_214, BwordOf_222, BwordOf_225, BwordOf_233, BwordOf_236, BwordOf_244, BwordOf_247, BwordOf_255, BwordOf_260, BwordOf_262, oi_0, oi_1, oi_10, oi_11, oi_12, oi_13, oi_14, oi_15, oi_16, oi_17, oi_18, oi_19, oi_2, oi_20, oi_21, oi_22, oi_23, oi_3, oi_4, oi_5, oi_6, oi_7, oi_8, oi_9, oi_m2]; try dsimp only
                                      refine ⟨fun h17 => ?_, fun h17 => ?_⟩
                                      · apply hB
                                        dsimp only [rgo, rfd, BwordOf, Nat.beq, rwp, rst, lv_args, rlk, rs1, rs2, rdl, rky, rct, rcs, rcd, rno, rsw, Value.category, List.filter, List.take, List.drop, List.reverse, List.reverseAux, List.cons_append, List.nil_append, Option.toList, Int.toNat, Int.reduceToNat, if_pos, if_neg, reduceIte, ↓reduceIte, Nat.reduceAdd, Nat.reduceEqDiff, Nat.reduceBEq, beq_self_eq_true, Bool.not_true, Bool.not_false, Bool.and_true, Bool.and_false, Bool.true_and, Bool.false_and, gI_sI, gI_sL, gI_sA, gI_sM, gL_sI, gL_sL, gL_sA, gL_sM, aI_sI, aI_sL, aI_sA, aI_sM, aL_sI, aL_sL, aL_sA, aL_sM, BwordOf_0, BwordOf_8, BwordOf_10, BwordOf_18, BwordOf_20, BwordOf_28, BwordOf_30, BwordOf_38, BwordOf_40, BwordOf_48, BwordOf_50, BwordOf_58, BwordOf_60, BwordOf_68, BwordOf_71, BwordOf_79, BwordOf_82, BwordOf_90, BwordOf_93, BwordOf_101, BwordOf_104, BwordOf_112, BwordOf_115, BwordOf_123, BwordOf_126, BwordOf_134, BwordOf_137, BwordOf_145, BwordOf_148, BwordOf_156, BwordOf_159, BwordOf_167, BwordOf_170, BwordOf_178, BwordOf_181, BwordOf_189, BwordOf_192, BwordOf_200, BwordOf_203, BwordOf_211, BwordOf_214, BwordOf_222, BwordOf_225, BwordOf_233, BwordOf_236, BwordOf_244, BwordOf_247, BwordOf_255, BwordOf_260, BwordOf_262, oi_0, oi_1, oi_10, oi_11, oi_12, oi_13, oi_14, oi_15, oi_16, oi_17, oi_18, oi_19, oi_2, oi_20, oi_21, oi_22, oi_23, oi_3, oi_4, oi_5, oi_6, oi_7, oi_8, oi_9, oi_m2]; try dsimp only
                                        refine ⟨fun h18 => ?_, fun h18 => ?_⟩
                                        · apply hB
                                          dsimp only [rgo, rfd, BwordOf, Nat.beq, rwp, rst, lv_args, rlk, rs1, rs2, rdl, rky, rct, rcs, rcd, rno, rsw, Value.category, List.filter, List.take, List.drop, List.reverse, List.reverseAux, List.cons_append, List.nil_append, Option.toList, Int.toNat, Int.reduceToNat, if_pos, if_neg, reduceIte, ↓reduceIte, Nat.reduceAdd, Nat.reduceEqDiff, Nat.reduceBEq, beq_self_eq_true, Bool.not_true, Bool.not_false, Bool.and_true, Bool.and_false, Bool.true_and, Bool.false_and, gI_sI, gI_sL, gI_sA, gI_sM, gL_sI, gL_sL, gL_sA, gL_sM, aI_sI, aI_sL, aI_sA, aI_sM, aL_sI, aL_sL, aL_sA, aL_sM, BwordOf_0, BwordOf_8, BwordOf_10, BwordOf_18, BwordOf_20, BwordOf_28, BwordOf_30, BwordOf_38, BwordOf_40, BwordOf_48, BwordOf_50, BwordOf_58, BwordOf_60, BwordOf_68, BwordOf_71, BwordOf_79, BwordOf_82, BwordOf_90, BwordOf_93, BwordOf_101, BwordOf_104, BwordOf_112, BwordOf_115, BwordOf_123, BwordOf_126, BwordOf_134, BwordOf_137, BwordOf_145, BwordOf_148, BwordOf_156, BwordOf_159, BwordOf_167, BwordOf_170, BwordOf_178, BwordOf_181, BwordOf_189, BwordOf_192, BwordOf_200, BwordOf_203, BwordOf_211, BwordOf_214, BwordOf_222, BwordOf_225, BwordOf_233, BwordOf_236, BwordOf_244, BwordOf_247, BwordOf_255, BwordOf_260, BwordOf_262, oi_0, oi_1, oi_10, oi_11, oi_12, oi_13, oi_14, oi_15, oi_16, oi_17, oi_18, oi_19, oi_2, oi_20, oi_21, oi_22, oi_23, oi_3, oi_4, oi_5, oi_6, oi_7, oi_8, oi_9, oi_m2]; try dsimp only
                                          refine ⟨fun h19 => ?_, fun h19 => ?_⟩
                                          · apply hB
                                            dsimp only [rgo, rfd, BwordOf, Nat.beq, rwp, rst, lv_args, rlk, rs1, rs2, rdl, rky, rct, rcs, rcd, rno, rsw, Value.category, List.filter, List.take, List.drop, List.reverse, List.reverseAux, List.cons_append, List.nil_append, Option.toList, Int.toNat, Int.reduceToNat, if_pos, if_neg, reduceIte, ↓reduceIte, Nat.reduceAdd, Nat.reduceEqDiff, Nat.reduceBEq, beq_self_eq_true, Bool.not_true, Bool.not_false, Bool.and_true, Bool.and_false, Bool.true_and, Bool.false_and, gI_sI, gI_sL, gI_sA, gI_sM, gL_sI, gL_sL, gL_sA, gL_sM, aI_sI, aI_sL, aI_sA, aI_sM, aL_sI, aL_sL, aL_sA, aL_sM, BwordOf_0, BwordOf_8, BwordOf_10, BwordOf_18, BwordOf_20, BwordOf_28, BwordOf_30, BwordOf_38, BwordOf_40, BwordOf_48, BwordOf_50, BwordOf_58, BwordOf_60, BwordOf_68, BwordOf_71, BwordOf_79, BwordOf_82, BwordOf_90, BwordOf_93, BwordOf_101, BwordOf_104, BwordOf_112, BwordOf_115, BwordOf_123, BwordOf_126, BwordOf_134, BwordOf_137, BwordOf_145, BwordOf_148, BwordOf_156, BwordOf_159, BwordOf_167, BwordOf_170, BwordOf_178, BwordOf_181, BwordOf_189, BwordOf_192, BwordOf_200, BwordOf_203, BwordOf_211, BwordOf_214, BwordOf_222, BwordOf_225, BwordOf_233, BwordOf_236, BwordOf_244, BwordOf_247, BwordOf_255, BwordOf_260, BwordOf_262, oi_0, oi_1, oi_10, oi_11, oi_12, oi_13, oi_14, oi_15, oi_16, oi_17, oi_18, oi_19, oi_2, oi_20, oi_21, oi_22, oi_23, oi_3, oi_4, oi_5, oi_6, oi_7, oi_8, oi_9, oi_m2]; try dsimp only
                                            refine ⟨fun h20 => ?_, fun h20 => ?_⟩
                                            · apply hB
                                              dsimp only [rgo, rfd, BwordOf, Nat.beq, rwp, rst, lv_args, rlk, rs1, rs2, rdl, rky, rct, rcs, rcd, rno, rsw, Value.category, List.filter, List.take, List.drop, List.reverse, List.reverseAux, List.cons_append, List.nil_append, Option.toList, Int.toNat, Int.reduceToNat, if_pos, if_neg, reduceIte, ↓reduceIte, Nat.reduceAdd, Nat.reduceEqDiff, Nat.reduceBEq, beq_self_eq_true, Bool.not_true, Bool.not_false, Bool.and_true, Bool.and_false, Bool.true_and, Bool.false_and, gI_sI, gI_sL, gI_sA, gI_sM, gL_sI, gL_sL, gL_sA, gL_sM, aI_sI, aI_sL, aI_sA, aI_sM, aL_sI, aL_sL, aL_sA, aL_sM, BwordOf_0, BwordOf_8, BwordOf_10, BwordOf_18, BwordOf_20, BwordOf_28, BwordOf_30, BwordOf_38, BwordOf_40, BwordOf_48, BwordOf_50, BwordOf_58, BwordOf_60, BwordOf_68, BwordOf_71, BwordOf_79, BwordOf_82, BwordOf_90, BwordOf_93, BwordOf_101, BwordOf_104, BwordOf_112, BwordOf_115, BwordOf_123, BwordOf_126, BwordOf_134, BwordOf_137, BwordOf_145, BwordOf_148, BwordOf_156, BwordOf_159, BwordOf_167, BwordOf_170, BwordOf_178, BwordOf_181, BwordOf_189, BwordOf_192, BwordOf_200, BwordOf_203, BwordOf_211, BwordOf_214, BwordOf_222, BwordOf_225, BwordOf_233, BwordOf_236, BwordOf_244, BwordOf_247, BwordOf_255, BwordOf_260, BwordOf_262, oi_0, oi_1, oi_10, oi_11, oi_12, oi_13, oi_14, oi_15, oi_16, oi_17, oi_18, oi_19, oi_2, oi_20, oi_21, oi_22, oi_23, oi_3, oi_4, oi_5, oi_6, oi_7, oi_8, oi_9, oi_m2]; try dsimp only
                                              refine ⟨fun h21 => ?_, fun h21 => ?_⟩
                                              · apply hB
                                                dsimp only [rgo, rfd, BwordOf, Nat.beq, rwp, rst, lv_args, rlk, rs1, rs2, rdl, rky, rct, rcs, rcd, rno, rsw, Value.category, List.filter, List.take, List.drop, List.reverse, List.reverseAux, List.cons_append, List.nil_append, Option.toList, Int.toNat, Int.reduceToNat, if_pos, if_neg, reduceIte, ↓reduceIte, Nat.reduceAdd, Nat.reduceEqDiff, Nat.reduceBEq, beq_self_eq_true, Bool.not_true, Bool.not_false, Bool.and_true, Bool.and_false, Bool.true_and, Bool.false_and, gI_sI, gI_sL, gI_sA, gI_sM, gL_sI, gL_sL, gL_sA, gL_sM, aI_sI, aI_sL, aI_sA, aI_sM, aL_sI, aL_sL, aL_sA, aL_sM, BwordOf_0, BwordOf_8, BwordOf_10, BwordOf_18, BwordOf_20, BwordOf_28, BwordOf_30, BwordOf_38, BwordOf_40, BwordOf_48, BwordOf_50, BwordOf_58, BwordOf_60, BwordOf_68, BwordOf_71, BwordOf_79, BwordOf_82, BwordOf_90, BwordOf_93, BwordOf_101, BwordOf_104, BwordOf_112, BwordOf_115, BwordOf_123, BwordOf_126, BwordOf_134, BwordOf_137, BwordOf_145, BwordOf_148, BwordOf_156, BwordOf_159, BwordOf_167, BwordOf_170, BwordOf_178, BwordOf_181, BwordOf_189, BwordOf_192, BwordOf_200, BwordOf_203, BwordOf_211, BwordOf_214, BwordOf_222, BwordOf_225, BwordOf_233, BwordOf_236, BwordOf_244, BwordOf_247, BwordOf_255, BwordOf_260, BwordOf_262, oi_0, oi_1, oi_10, oi_11, oi_12, oi_13, oi_14, oi_15, oi_16, oi_17, oi_18, oi_19, oi_2, oi_20, oi_21, oi_22, oi_23, oi_3, oi_4, oi_5, oi_6, oi_7, oi_8, oi_9, oi_m2]; try dsimp only
                                                refine ⟨fun h22 => ?_, fun h22 => ?_⟩
                                                · apply hB
                                                  dsimp only [rgo, rfd, BwordOf, Nat.beq, rwp, rst, lv_args, rlk, rs1, rs2, rdl, rky, rct, rcs, rcd, rno, rsw, Value.category, List.filter, List.take, List.drop, List.reverse, List.reverseAux, List.cons_append, List.nil_append, Option.toList, Int.toNat, Int.reduceToNat, if_pos, if_neg, reduceIte, ↓reduceIte, Nat.reduceAdd, Nat.reduceEqDiff, Nat.reduceBEq, beq_self_eq_true, Bool.not_true, Bool.not_false, Bool.and_true, Bool.and_false, Bool.true_and, Bool.false_and, gI_sI, gI_sL, gI_sA, gI_sM, gL_sI, gL_sL, gL_sA, gL_sM, aI_sI, aI_sL, aI_sA, aI_sM, aL_sI, aL_sL, aL_sA, aL_sM, BwordOf_0, BwordOf_8, BwordOf_10, BwordOf_18, BwordOf_20, BwordOf_28, BwordOf_30, BwordOf_38, BwordOf_40, BwordOf_48, BwordOf_50, BwordOf_58, BwordOf_60, BwordOf_68, BwordOf_71, BwordOf_79, BwordOf_82, BwordOf_90, BwordOf_93, BwordOf_101, BwordOf_104, BwordOf_112, BwordOf_115, BwordOf_123, BwordOf_126, BwordOf_134, BwordOf_137, BwordOf_145, BwordOf_148, BwordOf_156, BwordOf_159, BwordOf_167, BwordOf_170, BwordOf_178, BwordOf_181, BwordOf_189, BwordOf_192, BwordOf_200, BwordOf_203, BwordOf_211, BwordOf_214, BwordOf_222, BwordOf_225, BwordOf_233, BwordOf_236, BwordOf_244, BwordOf_247, BwordOf_255, BwordOf_260, BwordOf_262, oi_0, oi_1, oi_10, oi_11, oi_12, oi_13, oi_14, oi_15, oi_16, oi_17, oi_18, oi_19, oi_2, oi_20, oi_21, oi_22, oi_23, oi_3, oi_4, oi_5, oi_6, oi_7, oi_8, oi_9, oi_m2]; try dsimp only
                                                  refine ⟨fun h23 => ?_, fun h23 => ?_⟩
                                                  · apply hB
                                                    dsimp only [rgo, rfd, BwordOf, Nat.beq, rwp, rst, lv_args, rlk, rs1, rs2, rdl, rky, rct, rcs, rcd, rno, rsw, Value.category, List.filter, List.take, List.drop, List.reverse, List.reverseAux, List.cons_append, List.nil_append, Option.toList, Int.toNat, Int.reduceToNat, if_pos, if_neg, reduceIte, ↓reduceIte, Nat.reduceAdd, Nat.reduceEqDiff, Nat.reduceBEq, beq_self_eq_true, Bool.not_true, Bool.not_false, Bool.and_true, Bool.and_false, Bool.true_and, Bool.false_and, gI_sI, gI_sL, gI_sA, gI_sM, gL_sI, gL_sL, gL_sA, gL_sM, aI_sI, aI_sL, aI_sA, aI_sM, aL_sI, aL_sL, aL_sA, aL_sM, BwordOf_0, BwordOf_8, BwordOf_10, BwordOf_18, BwordOf_20, BwordOf_28, BwordOf_30, BwordOf_38, BwordOf_40, BwordOf_48, BwordOf_50, BwordOf_58, BwordOf_60, BwordOf_68, BwordOf_71, BwordOf_79, BwordOf_82, BwordOf_90, BwordOf_93, BwordOf_101, BwordOf_104, BwordOf_112, BwordOf_115, BwordOf_123, BwordOf_126, BwordOf_134, BwordOf_137, BwordOf_145, BwordOf_148, BwordOf_156, BwordOf_159, BwordOf_167, BwordOf_170, BwordOf_178, BwordOf_181, BwordOf_189, BwordOf_192, BwordOf_200, BwordOf_203, BwordOf_211, BwordOf_214, BwordOf_222, BwordOf_225, BwordOf_233, BwordOf_236, BwordOf_244, BwordOf_247, BwordOf_255, BwordOf_260, BwordOf_262, oi_0, oi_1, oi_10, oi_11, oi_12, oi_13, oi_14, oi_15, oi_16, oi_17, oi_18, oi_19, oi_2, oi_20, oi_21, oi_22, oi_23, oi_3, oi_4, oi_5, oi_6, oi_7, oi_8, oi_9, oi_m2]; try dsimp only
                                                    refine ⟨fun h24 => ?_, fun h24 => ?_⟩
                                                    · apply hB
                                                      dsimp only [rgo, rfd, BwordOf, Nat.beq, rwp, rst, lv_args, rlk, rs1, rs2, rdl, rky, rct, rcs, rcd, rno, rsw, Value.category, List.filter, List.take, List.drop, List.reverse, List.reverseAux, List.cons_append, List.nil_append, Option.toList, Int.toNat, Int.reduceToNat, if_pos, if_neg, reduceIte, ↓reduceIte, Nat.reduceAdd, Nat.reduceEqDiff, Nat.reduceBEq, beq_self_eq_true, Bool.not_true, Bool.not_false, Bool.and_true, Bool.and_false, Bool.true_and, Bool.false_and, gI_sI, gI_sL, gI_sA, gI_sM, gL_sI, gL_sL, gL_sA, gL_sM, aI_sI, aI_sL, aI_sA, aI_sM, aL_sI, aL_sL, aL_sA, aL_sM, BwordOf_0, BwordOf_8, BwordOf_10, BwordOf_18, BwordOf_20, BwordOf_28, BwordOf_30, BwordOf_38, BwordOf_40, BwordOf_48, BwordOf_50, BwordOf_58, BwordOf_60, BwordOf_68, BwordOf_71, BwordOf_79, BwordOf_82, BwordOf_90, BwordOf_93, BwordOf_101, BwordOf_104, BwordOf_112, BwordOf_115, BwordOf_123, BwordOf_126, BwordOf_134, BwordOf_137, BwordOf_145, BwordOf_148, BwordOf_156, BwordOf_159, BwordOf_167, BwordOf_170, BwordOf_178, BwordOf_181, BwordOf_189, BwordOf_192, BwordOf_200, BwordOf_203, BwordOf_211, BwordOf_214, BwordOf_222, BwordOf_225, BwordOf_233, BwordOf_236, BwordOf_244, BwordOf_247, BwordOf_255, BwordOf_260, BwordOf_262, oi_0, oi_1, oi_10, oi_11, oi_12, oi_13, oi_14, oi_15, oi_16, oi_17, oi_18, oi_19, oi_2, oi_20, oi_21, oi_22, oi_23, oi_3, oi_4, oi_5, oi_6, oi_7, oi_8, oi_9, oi_m2]; try dsimp only
                                                      apply hB
                                                      dsimp only [rgo, rfd, BwordOf, Nat.beq, rwp, rst, lv_args, rlk, rs1, rs2, rdl, rky, rct, rcs, rcd, rno, rsw, Value.category, List.filter, List.take, List.drop, List.reverse, List.reverseAux, List.cons_append, List.nil_append, Option.toList, Int.toNat, Int.reduceToNat, if_pos, if_neg, reduceIte, ↓reduceIte, Nat.reduceAdd, Nat.reduceEqDiff, Nat.reduceBEq, beq_self_eq_true, Bool.not_true, Bool.not_false, Bool.and_true, Bool.and_false, Bool.true_and, Bool.false_and, gI_sI, gI_sL, gI_sA, gI_sM, gL_sI, gL_sL, gL_sA, gL_sM, aI_sI, aI_sL, aI_sA, aI_sM, aL_sI, aL_sL, aL_sA, aL_sM, BwordOf_0, BwordOf_8, BwordOf_10, BwordOf_18, BwordOf_20, BwordOf_28, BwordOf_30, BwordOf_38, BwordOf_40, BwordOf_48, BwordOf_50, BwordOf_58, BwordOf_60, BwordOf_68, BwordOf_71, BwordOf_79, BwordOf_82, BwordOf_90, BwordOf_93, BwordOf_101, BwordOf_104, BwordOf_112, BwordOf_115, BwordOf_123, BwordOf_126, BwordOf_134, BwordOf_137, BwordOf_145, BwordOf_148, BwordOf_156, BwordOf_159, BwordOf_167, BwordOf_170, BwordOf_178, BwordOf_181, BwordOf_189, BwordOf_192, BwordOf_200, BwordOf_203, BwordOf_211, BwordOf_214, BwordOf_222, BwordOf_225, BwordOf_233, BwordOf_236, BwordOf_244, BwordOf_247, BwordOf_255, BwordOf_260, BwordOf_262, oi_0, oi_1, oi_10, oi_11, oi_12, oi_13, oi_14, oi_15, oi_16, oi_17, oi_18, oi_19, oi_2, oi_20, oi_21, oi_22, oi_23, oi_3, oi_4, oi_5, oi_6, oi_7, oi_8, oi_9, oi_m2]; try dsimp only
                                                      refine ⟨trivial, ?_⟩
                                                      exact ⟨_, rfl, rfl⟩
                                                    · apply hB
                                                      dsimp only [rgo, rfd, BwordOf, Nat.beq, rwp, rst, lv_args, rlk, rs1, rs2, rdl, rky, rct, rcs, rcd, rno, rsw, Value.category, List.filter, List.take, List.drop, List.reverse, List.reverseAux, List.cons_append, List.nil_append, Option.toList, Int.toNat, Int.reduceToNat, if_pos, if_neg, reduceIte, ↓reduceIte, Nat.reduceAdd, Nat.reduceEqDiff, Nat.reduceBEq, beq_self_eq_true, Bool.not_true, Bool.not_false, Bool.and_true, Bool.and_false, Bool.true_and, Bool.false_and, gI_sI, gI_sL, gI_sA, gI_sM, gL_sI, gL_sL, gL_sA, gL_sM, aI_sI, aI_sL, aI_sA, aI_sM, aL_sI, aL_sL, aL_sA, aL_sM, BwordOf_0, BwordOf_8, BwordOf_10, BwordOf_18, BwordOf_20, BwordOf_28, BwordOf_30, BwordOf_38, BwordOf_40, BwordOf_48, BwordOf_50, BwordOf_58, BwordOf_60, BwordOf_68, BwordOf_71, BwordOf_79, BwordOf_82, BwordOf_90, BwordOf_93, BwordOf_101, BwordOf_104, BwordOf_112, BwordOf_115, BwordOf_123, BwordOf_126, BwordOf_134, BwordOf_137, BwordOf_145, BwordOf_148, BwordOf_156, BwordOf_159, BwordOf_167, BwordOf_170, BwordOf_178, BwordOf_181, BwordOf_189, BwordOf_192, BwordOf_200, BwordOf_203, BwordOf_211, BwordOf_214, BwordOf_222, BwordOf_225, BwordOf_233, BwordOf_236, BwordOf_244, BwordOf_247, BwordOf_255, BwordOf_260, BwordOf_262, oi_0, oi_1, oi_10, oi_11, oi_12, oi_13, oi_14, oi_15, oi_16, oi_17, oi_18, oi_19, oi_2, oi_20, oi_21, oi_22, oi_23, oi_3, oi_4, oi_5, oi_6, oi_7, oi_8, oi_9, oi_m2]; try dsimp only
                                                      apply hB
                                                      dsimp only [rgo, rfd, BwordOf, Nat.beq, rwp, rst, lv_args, rlk, rs1, rs2, rdl, rky, rct, rcs, rcd, rno, rsw, Value.category, List.filter, List.take, List.drop, List.reverse, List.reverseAux, List.cons_append, List.nil_append, Option.toList, Int.toNat, Int.reduceToNat, if_pos, if_neg, reduceIte, ↓reduceIte, Nat.reduceAdd, Nat.reduceEqDiff, Nat.reduceBEq, beq_self_eq_true, Bool.not_true, Bool.not_false, Bool.and_true, Bool.and_false, Bool.true_and, Bool.false_and, gI_sI, gI_sL, gI_sA, gI_sM, gL_sI, gL_sL, gL_sA, gL_sM, aI_sI, aI_sL, aI_sA, aI_sM, aL_sI, aL_sL, aL_sA, aL_sM, BwordOf_0, BwordOf_8, BwordOf_10, BwordOf_18, BwordOf_20, BwordOf_28, BwordOf_30, BwordOf_38, BwordOf_40, BwordOf_48, BwordOf_50, BwordOf_58, BwordOf_60, BwordOf_68, BwordOf_71, BwordOf_79, BwordOf_82, BwordOf_90, BwordOf_93, BwordOf_101, BwordOf_104, BwordOf_112, BwordOf_115, BwordOf_123, BwordOf_126, BwordOf_134, BwordOf_137, BwordOf_145, BwordOf_148, BwordOf_156, BwordOf_159, BwordOf_167, BwordOf_170, BwordOf_178, BwordOf_181, BwordOf_189, BwordOf_192, BwordOf_200, BwordOf_203, BwordOf_211, BwordOf_214, BwordOf_222, BwordOf_225, BwordOf_233, BwordOf_236, BwordOf_244, BwordOf_247, BwordOf_255, BwordOf_260, BwordOf_262, oi_0, oi_1, oi_10, oi_11, oi_12, oi_13, oi_14, oi_15, oi_16, oi_17, oi_18, oi_19, oi_2, oi_20, oi_21, oi_22, oi_23, oi_3, oi_4, oi_5, oi_6, oi_7, oi_8, oi_9, oi_m2]; try dsimp only
                                                      refine ⟨trivial, ?_⟩
                                                      exact ⟨_, rfl, rfl⟩
                                                  · apply hB
                                                    dsimp only [rgo, rfd, BwordOf, Nat.beq, rwp, rst, lv_args, rlk, rs1, rs2, rdl, rky, rct, rcs, rcd, rno, rsw, Value.category, List.filter, List.take, List.drop, List.reverse, List.reverseAux, List.cons_append, List.nil_append, Option.toList, Int.toNat, Int.reduceToNat, if_pos, if_neg, reduceIte, ↓reduceIte, Nat.reduceAdd, Nat.reduceEqDiff, Nat.reduceBEq, beq_self_eq_true, Bool.not_true, Bool.not_false, Bool.and_true, Bool.and_false, Bool.true_and, Bool.false_and, gI_sI, gI_sL, gI_sA, gI_sM, gL_sI, gL_sL, gL_sA, gL_sM, aI_sI, aI_sL, aI_sA, aI_sM, aL_sI, aL_sL, aL_sA, aL_sM, BwordOf_0, BwordOf_8, BwordOf_10, BwordOf_18, BwordOf_20, BwordOf_28, BwordOf_30, BwordOf_38, BwordOf_40, BwordOf_48, BwordOf_50, BwordOf_58, BwordOf_60, BwordOf_68, BwordOf_71, BwordOf_79, BwordOf_82, BwordOf_90, BwordOf_93, BwordOf_101, BwordOf_104, BwordOf_112, BwordOf_115, BwordOf_123, BwordOf_126, BwordOf_134, BwordOf_137, BwordOf_145, BwordOf_148, BwordOf_156, BwordOf_159, BwordOf_167, BwordOf_170, BwordOf_178, BwordOf_181, BwordOf_189, BwordOf_192, BwordOf_200, BwordOf_203, BwordOf_211, BwordOf_214, BwordOf_222, BwordOf_225, BwordOf_233, BwordOf_236, BwordOf_244, BwordOf_247, BwordOf_255, BwordOf_260, BwordOf_262, oi_0, oi_1, oi_10, oi_11, oi_12, oi_13, oi_14, oi_15, oi_16, oi_17, oi_18, oi_19, oi_2, oi_20, oi_21, oi_22, oi_23, oi_3, oi_4, oi_5, oi_6, oi_7, oi_8, oi_9, oi_m2]; try dsimp only
                                                    refine ⟨trivial, ?_⟩
                                                    exact ⟨_, rfl, rfl⟩
                                                · apply hB
                                                  dsimp only [rgo, rfd, BwordOf, Nat.beq, rwp, rst, lv_args, rlk, rs1, rs2, rdl, rky, rct, rcs, rcd, rno, rsw, Value.category, List.filter, List.take, List.drop, List.reverse, List.reverseAux, List.cons_append, List.nil_append, Option.toList, Int.toNat, Int.reduceToNat, if_pos, if_neg, reduceIte, ↓reduceIte, Nat.reduceAdd, Nat.reduceEqDiff, Nat.reduceBEq, beq_self_eq_true, Bool.not_true, Bool.not_false, Bool.and_true, Bool.and_false, Bool.true_and, Bool.false_and, gI_sI, gI_sL, gI_sA, gI_sM, gL_sI, gL_sL, gL_sA, gL_sM, aI_sI, aI_sL, aI_sA, aI_sM, aL_sI, aL_sL, aL_sA, aL_sM, BwordOf_0, BwordOf_8, BwordOf_10, BwordOf_18, BwordOf_20, BwordOf_28, BwordOf_30, BwordOf_38, BwordOf_40, BwordOf_48, BwordOf_50, BwordOf_58, BwordOf_60, BwordOf_68, BwordOf_71, BwordOf_79, BwordOf_82, BwordOf_90, BwordOf_93, BwordOf_101, BwordOf_104, BwordOf_112, BwordOf_115, BwordOf_123, BwordOf_126, BwordOf_134, BwordOf_137, BwordOf_145, BwordOf_148, BwordOf_156, BwordOf_159, BwordOf_167, BwordOf_170, BwordOf_178, BwordOf_181, BwordOf_189, BwordOf_192, BwordOf_200, BwordOf_203, BwordOf_211, BwordOf_214, BwordOf_222, BwordOf_225, BwordOf_233, BwordOf_236, BwordOf_244, BwordOf_247, BwordOf_255, BwordOf_260, BwordOf_262, oi_0, oi_1, oi_10, oi_11, oi_12, oi_13, oi_14, oi_15, oi_16, oi_17, oi_18, oi_19, oi_2, oi_20, oi_21, oi_22, oi_23, oi_3, oi_4, oi_5, oi_6, oi_7, oi_8, oi_9, oi_m2]; try dsimp only
                                                  refine ⟨trivial, ?_⟩
                                                  exact ⟨_, rfl, rfl⟩
                                              · apply hB
                                                dsimp only [rgo, rfd, BwordOf, Nat.beq, rwp, rst, lv_args, rlk, rs1, rs2, rdl, rky, rct, rcs, rcd, rno, rsw, Value.category, List.filter, List.take, List.drop, List.reverse, List.reverseAux, List.cons_append, List.nil_append, Option.toList, Int.toNat, Int.reduceToNat, if_pos, if_neg, reduceIte, ↓reduceIte, Nat.reduceAdd, Nat.reduceEqDiff, Nat.reduceBEq, beq_self_eq_true, Bool.not_true, Bool.not_false, Bool.and_true, Bool.and_false, Bool.true_and, Bool.false_and, gI_sI, gI_sL, gI_sA, gI_sM, gL_sI, gL_sL, gL_sA, gL_sM, aI_sI, aI_sL, aI_sA, aI_sM, aL_sI, aL_sL, aL_sA, aL_sM, BwordOf_0, BwordOf_8, BwordOf_10, BwordOf_18, BwordOf_20, BwordOf_28, BwordOf_30, BwordOf_38, BwordOf_40, BwordOf_48, BwordOf_50, BwordOf_58, BwordOf_60, BwordOf_68, BwordOf_71, BwordOf_79, BwordOf_82, BwordOf_90, BwordOf_93, BwordOf_101, BwordOf_104, BwordOf_112, BwordOf_115, BwordOf_123, BwordOf_126, BwordOf_134, BwordOf_137, BwordOf_145, BwordOf_148, BwordOf_156, BwordOf_159, BwordOf_167, BwordOf_170, BwordOf_178, BwordOf_181, BwordOf_189, BwordOf_192, BwordOf_200, BwordOf_203, BwordOf_211, BwordOf_214, BwordOf_222, BwordOf_225, BwordOf_233, BwordOf_236, BwordOf_244, BwordOf_247, BwordOf_255, BwordOf_260, BwordOf_262, oi_0, oi_1, oi_10, oi_11, oi_12, oi_13, oi_14, oi_15, oi_16, oi_17, oi_18, oi_19, oi_2, oi_20, oi_21, oi_22, oi_23, oi_3, oi_4, oi_5, oi_6, oi_7, oi_8, oi_9, oi_m2]; try dsimp only
                                                refine ⟨trivial, ?_⟩
                                                exact ⟨_, rfl, rfl⟩
                                            · apply hB
                                              dsimp only [rgo, rfd, BwordOf, Nat.beq, rwp, rst, lv_args, rlk, rs1, rs2, rdl, rky, rct, rcs, rcd, rno, rsw, Value.category, List.filter, List.take, List.drop, List.reverse, List.reverseAux, List.cons_append, List.nil_append, Option.toList, Int.toNat, Int.reduceToNat, if_pos, if_neg, reduceIte, ↓reduceIte, Nat.reduceAdd, Nat.reduceEqDiff, Nat.reduceBEq, beq_self_eq_true, Bool.not_true, Bool.not_false, Bool.and_true, Bool.and_false, Bool.true_and, Bool.false_and, gI_sI, gI_sL, gI_sA, gI_sM, gL_sI, gL_sL, gL_sA, gL_sM, aI_sI, aI_sL, aI_sA, aI_sM, aL_sI, aL_sL, aL_sA, aL_sM, BwordOf_0, BwordOf_8, BwordOf_10, BwordOf_18, BwordOf_20, BwordOf_28, BwordOf_30, BwordOf_38, BwordOf_40, BwordOf_48, BwordOf_50, BwordOf_58, BwordOf_60, BwordOf_68, BwordOf_71, BwordOf_79, BwordOf_82, BwordOf_90, BwordOf_93, BwordOf_101, BwordOf_104, BwordOf_112, BwordOf_115, BwordOf_123, BwordOf_126, BwordOf_134, BwordOf_137, BwordOf_145, BwordOf_148, BwordOf_156, BwordOf_159, BwordOf_167, BwordOf_170, BwordOf_178, BwordOf_181, BwordOf_189, BwordOf_192, BwordOf_200, BwordOf_203, BwordOf_211, BwordOf_214, BwordOf_222, BwordOf_225, BwordOf_233, BwordOf_236, BwordOf_244, BwordOf_247, BwordOf_255, BwordOf_260, BwordOf_262, oi_0, oi_1, oi_10, oi_11, oi_12, oi_13, oi_14, oi_15, oi_16, oi_17, oi_18, oi_19, oi_2, oi_20, oi_21, oi_22, oi_23, oi_3, oi_4, oi_5, oi_6, oi_7, oi_8, oi_9, oi_m2]; try dsimp only
                                              refine ⟨trivial, ?_⟩
                                              exact ⟨_, rfl, rfl⟩
                                          · apply hB
                                            dsimp only [rgo, rfd, BwordOf, Nat.beq, rwp, rst, lv_args, rlk, rs1, rs2, rdl, rky, rct, rcs, rcd, rno, rsw, Value.category, List.filter, List.take, List.drop, List.reverse, List.reverseAux, List.cons_append, List.nil_append, Option.toList, Int.toNat, Int.reduceToNat, if_pos, if_neg, reduceIte, ↓reduceIte, Nat.reduceAdd, Nat.reduceEqDiff, Nat.reduceBEq, beq_self_eq_true, Bool.not_true, Bool.not_false, Bool.and_true, Bool.and_false, Bool.true_and, Bool.false_and, gI_sI, gI_sL, gI_sA, gI_sM, gL_sI, gL_sL, gL_sA, gL_sM, aI_sI, aI_sL, aI_sA, aI_sM, aL_sI, aL_sL, aL_sA, aL_sM, BwordOf_0, BwordOf_8, BwordOf_10, BwordOf_18, BwordOf_20, BwordOf_28, BwordOf_30, BwordOf_38, BwordOf_40, BwordOf_48, BwordOf_50, BwordOf_58, BwordOf_60, BwordOf_68, BwordOf_71, BwordOf_79, BwordOf_82, BwordOf_90, BwordOf_93, BwordOf_101, BwordOf_104, BwordOf_112, BwordOf_115, BwordOf_123, BwordOf_126, BwordOf_134, BwordOf_137, BwordOf_145, BwordOf_148, BwordOf_156, BwordOf_159, BwordOf_167, BwordOf_170, BwordOf_178, BwordOf_181, BwordOf_189, BwordOf_192, BwordOf_200, BwordOf_203, BwordOf_211, BwordOf_214, BwordOf_222, BwordOf_225, BwordOf_233, BwordOf_236, BwordOf_244, BwordOf_247, BwordOf_255, BwordOf_260, BwordOf_262, oi_0, oi_1, oi_10, oi_11, oi_12, oi_13, oi_14, oi_15, oi_16, oi_17, oi_18, oi_19, oi_2, oi_20, oi_21, oi_22, oi_23, oi_3, oi_4, oi_5, oi_6, oi_7, oi_8, oi_9, oi_m2]; try dsimp only
                                            refine ⟨trivial, ?_⟩
                                            exact ⟨_, rfl, rfl⟩
                                        · apply hB
                                          dsimp only [rgo, rfd, BwordOf, Nat.beq, rwp, rst, lv_args, rlk, rs1, rs2, rdl, rky, rct, rcs, rcd, rno, rsw, Value.category, List.filter, List.take, List.drop, List.reverse, List.reverseAux, List.cons_append, List.nil_append, Option.toList, Int.toNat, Int.reduceToNat, if_pos, if_neg, reduceIte, ↓reduceIte, Nat.reduceAdd, Nat.reduceEqDiff, Nat.reduceBEq, beq_self_eq_true, Bool.not_true, Bool.not_false, Bool.and_true, Bool.and_false, Bool.true_and, Bool.false_and, gI_sI, gI_sL, gI_sA, gI_sM, gL_sI, gL_sL, gL_sA, gL_sM, aI_sI, aI_sL, aI_sA, aI_sM, aL_sI, aL_sL, aL_sA, aL_sM, BwordOf_0, BwordOf_8, BwordOf_10, BwordOf_18, BwordOf_20, BwordOf_28, BwordOf_30, BwordOf_38, BwordOf_40, BwordOf_48, BwordOf_50, BwordOf_58, BwordOf_60, BwordOf_68, BwordOf_71, BwordOf_79, BwordOf_82, BwordOf_90, BwordOf_93, BwordOf_101, BwordOf_104, BwordOf_112, BwordOf_115, BwordOf_123, BwordOf_126, BwordOf_134, BwordOf_137, BwordOf_145, BwordOf_148, BwordOf_156, BwordOf_159, BwordOf_167, BwordOf_170, BwordOf_178, BwordOf_181, BwordOf_189, BwordOf_192, BwordOf_200, BwordOf_203, BwordOf_211, BwordOf_214, BwordOf_222, BwordOf_225, BwordOf_233, BwordOf_236, BwordOf_244, BwordOf_247, BwordOf_255, BwordOf_260, BwordOf_262, oi_0, oi_1, oi_10, oi_11, oi_12, oi_13, oi_14, oi_15, oi_16, oi_17, oi_18, oi_19, oi_2, oi_20, oi_21, oi_22, oi_23, oi_3, oi_4, oi_5, oi_6, oi_7, oi_8, oi_9, oi_m2]; try dsimp only
                                          refine ⟨trivial, ?_⟩
                                          exact ⟨_, rfl, rfl⟩
                                      · apply hB
                                        dsimp only [rgo, rfd, BwordOf, Nat.beq, rwp, rst, lv_args, rlk, rs1, rs2, rdl, rky, rct, rcs, rcd, rno, rsw, Value.category, List.filter, List.take, List.drop, List.reverse, List.reverseAux, List.cons_append, List.nil_append, Option.toList, Int.toNat, Int.reduceToNat, if_pos, if_neg, reduceIte, ↓reduceIte, Nat.reduceAdd, Nat.reduceEqDiff, Nat.reduceBEq, beq_self_eq_true, Bool.not_true, Bool.not_false, Bool.and_true, Bool.and_false, Bool.true_and, Bool.false_and, gI_sI, gI_sL, gI_sA, gI_sM, gL_sI, gL_sL, gL_sA, gL_sM, aI_sI, aI_sL, aI_sA, aI_sM, aL_sI, aL_sL, aL_sA, aL_sM, BwordOf_0, BwordOf_8, BwordOf_10, BwordOf_18, BwordOf_20, BwordOf_28, BwordOf_30, BwordOf_38, BwordOf_40, BwordOf_48, BwordOf_50, BwordOf_58, BwordOf_60, BwordOf_68, BwordOf_71, BwordOf_79, BwordOf_82, BwordOf_90, BwordOf_93, BwordOf_101, BwordOf_104, BwordOf_112, BwordOf_115, BwordOf_123, BwordOf_126, BwordOf_134, BwordOf_137, BwordOf_145, BwordOf_148, BwordOf_156, BwordOf_159, BwordOf_167, BwordOf_170, BwordOf_178, BwordOf_181, BwordOf_189, BwordOf_192, BwordOf_200, BwordOf_203, BwordOf_211, BwordOf_214, BwordOf_222, BwordOf_225, BwordOf_233, BwordOf_236, BwordOf_244, BwordOf_247, BwordOf_255, BwordOf_260, BwordOf_262, oi_0, oi_1, oi_10, oi_11, oi_12, oi_13, oi_14, oi_15, oi_16, oi_17, oi_18, oi_19, oi_2, oi_20, oi_21, oi_22, oi_23, oi_3, oi_4, oi_5, oi_6, oi_7, oi_8, oi_9, oi_m2]; try dsimp only
                                        refine ⟨trivial, ?_⟩
                                        exact ⟨_, rfl, rfl⟩
                                    · apply hB
                                      dsimp only [rgo, rfd, BwordOf, Nat.beq, rwp, rst, lv_args, rlk, rs1, rs2, rdl, rky, rct, rcs, rcd, rno, rsw, Value.category, List.filter, List.take, List.drop, List.reverse, List.reverseAux, List.cons_append, List.nil_append, Option.toList, Int.toNat, Int.reduceToNat, if_pos, if_neg, reduceIte, ↓reduceIte, Nat.reduceAdd, Nat.reduceEqDiff, Nat.reduceBEq, beq_self_eq_true, Bool.not_true, Bool.not_false, Bool.and_true, Bool.and_false, Bool.true_and, Bool.false_and, gI_sI, gI_sL, gI_sA, gI_sM, gL_sI, gL_sL, gL_sA, gL_sM, aI_sI, aI_sL, aI_sA, aI_sM, aL_sI, aL_sL, aL_sA, aL_sM, BwordOf_0, BwordOf_8, BwordOf_10, BwordOf_18, BwordOf_20, BwordOf_28, BwordOf_30, BwordOf_38, BwordOf_40, BwordOf_48, BwordOf_50, BwordOf_58, BwordOf_60, BwordOf_68, BwordOf_71, BwordOf_79, BwordOf_82, BwordOf_90, BwordOf_93, BwordOf_101, BwordOf_104, BwordOf_112, BwordOf_115, BwordOf_123, BwordOf_126, BwordOf_134, BwordOf_137, BwordOf_145, BwordOf_148, BwordOf_156, BwordOf_159, BwordOf_167, BwordOf_170, BwordOf_178, BwordOf_181, BwordOf_189, BwordOf_192, BwordOf_200, BwordOf_203, BwordOf_211, BwordOf_214, BwordOf_222, BwordOf_225, BwordOf_233, BwordOf_236, BwordOf_244, BwordOf_247, BwordOf_255, BwordOf_260, BwordOf_262, oi_0, oi_1, oi_10, oi_11, oi_12, oi_13, oi_14, oi_15, oi_16, oi_17, oi_18, oi_19, oi_2, oi_20, oi_21, oi_22, oi_23, oi_3, oi_4, oi_5, oi_6, oi_7, oi_8, oi_9, oi_m2]; try dsimp only
                                      refine ⟨trivial, ?_⟩
                                      exact ⟨_, rfl, rfl⟩
                                  · apply hB
                                    dsimp only [rgo, rfd, BwordOf, Nat.beq, rwp, rst, lv_args, rlk, rs1, rs2, rdl, rky, rct, rcs, rcd, rno, rsw, Value.category, List.filter, List.take, List.drop, List.reverse, List.reverseAux, List.cons_append, List.nil_append, Option.toList, Int.toNat, Int.reduceToNat, if_pos, if_neg, reduceIte, ↓reduceIte, Nat.reduceAdd, Nat.reduceEqDiff, Nat.reduceBEq, beq_self_eq_true, Bool.not_true, Bool.not_false, Bool.and_true, Bool.and_false, Bool.true_and, Bool.false_and, gI_sI, gI_sL, gI_sA, gI_sM, gL_sI, gL_sL, gL_sA, gL_sM, aI_sI, aI_sL, aI_sA, aI_sM, aL_sI, aL_sL, aL_sA, aL_sM, BwordOf_0, BwordOf_8, BwordOf_10, BwordOf_18, BwordOf_20, BwordOf_28, BwordOf_30, BwordOf_38, BwordOf_40, BwordOf_48, BwordOf_50, BwordOf_58, BwordOf_60, BwordOf_68, BwordOf_71, BwordOf_79, BwordOf_82, BwordOf_90, BwordOf_93, BwordOf_101, BwordOf_104, BwordOf_112, BwordOf_115, BwordOf_123, BwordOf_126, BwordOf_134, BwordOf_137, BwordOf_145, BwordOf_148, BwordOf_156, BwordOf_159, BwordOf_167, BwordOf_170, BwordOf_178, BwordOf_181, BwordOf_189, BwordOf_192, BwordOf_200, BwordOf_203, BwordOf_211, BwordOf_214, BwordOf_222, BwordOf_225, BwordOf_233, BwordOf_236, BwordOf_244, BwordOf_247, BwordOf_255, BwordOf_260, BwordOf_262, oi_0, oi_1, oi_10, oi_11, oi_12, oi_13, oi_14, oi_15, oi_16, oi_17, oi_18, oi_19, oi_2, oi_20, oi_21, oi_22, oi_23, oi_3, oi_4, oi_5, oi_6, oi_7, oi_8, oi_9, oi_m2]; try dsimp only
                                    refine ⟨trivial, ?_⟩
                                    exact ⟨_, rfl, rfl⟩
                                · apply hB
                                  dsimp only [rgo, rfd, BwordOf, Nat.beq, rwp, rst, lv_args, rlk, rs1, rs2, rdl, rky, rct, rcs, rcd, rno, rsw, Value.category, List.filter, List.take, List.drop, List.reverse, List.reverseAux, List.cons_append, List.nil_append, Option.toList, Int.toNat, Int.reduceToNat, if_pos, if_neg, reduceIte, ↓reduceIte, Nat.reduceAdd, Nat.reduceEqDiff, Nat.reduceBEq, beq_self_eq_true, Bool.not_true, Bool.not_false, Bool.and_true, Bool.and_false, Bool.true_and, Bool.false_and, gI_sI, gI_sL, gI_sA, gI_sM, gL_sI, gL_sL, gL_sA, gL_sM, aI_sI, aI_sL, aI_sA, aI_sM, aL_sI, aL_sL, aL_sA, aL_sM, BwordOf_0, BwordOf_8, BwordOf_10, BwordOf_18, BwordOf_20, BwordOf_28, BwordOf_30, BwordOf_38, BwordOf_40, BwordOf_48, BwordOf_50, BwordOf_58, BwordOf_60, BwordOf_68, BwordOf_71, BwordOf_79, BwordOf_82, BwordOf_90, BwordOf_93, BwordOf_101, BwordOf_104, BwordOf_112, BwordOf_115, BwordOf_123, BwordOf_126, BwordOf_134, BwordOf_137, BwordOf_145, BwordOf_148, BwordOf_156, BwordOf_159, BwordOf_167, BwordOf_170, BwordOf_178, BwordOf_181, BwordOf_189, BwordOf_192, BwordOf_200, BwordOf_203, BwordOf_211, BwordOf_214, BwordOf_222, BwordOf_225, BwordOf_233, BwordOf_236, BwordOf_244, BwordOf_247, BwordOf_255, BwordOf_260, BwordOf_262, oi_0, oi_1, oi_10, oi_11, oi_12, oi_13, oi_14, oi_15, oi_16, oi_17, oi_18, oi_19, oi_2, oi_20, oi_21, oi_22, oi_23, oi_3, oi_4, oi_5, oi_6, oi_7, oi_8, oi_9, oi_m2]; try dsimp only
                                  refine ⟨trivial, ?_⟩
                                  exact ⟨_, rfl, rfl⟩
                              · apply hB
                                dsimp only [rgo, rfd, BwordOf, Nat.beq, rwp, rst, lv_args, rlk, rs1, rs2, rdl, rky, rct, rcs, rcd, rno, rsw, Value.category, List.filter, List.take, List.drop, List.reverse, List.reverseAux, List.cons_append, List.nil_append, Option.toList, Int.toNat, Int.reduceToNat, if_pos, if_neg, reduceIte, ↓reduceIte, Nat.reduceAdd, Nat.reduceEqDiff, Nat.reduceBEq, beq_self_eq_true, Bool.not_true, Bool.not_false, Bool.and_true, Bool.and_false, Bool.true_and, Bool.false_and, gI_sI, gI_sL, gI_sA, gI_sM, gL_sI, gL_sL, gL_sA, gL_sM, aI_sI, aI_sL, aI_sA, aI_sM, aL_sI, aL_sL, aL_sA, aL_sM, BwordOf_0, BwordOf_8, BwordOf_10, BwordOf_18, BwordOf_20, BwordOf_28, BwordOf_30, BwordOf_38, BwordOf_40, BwordOf_48, BwordOf_50, BwordOf_58, BwordOf_60, BwordOf_68, BwordOf_71, BwordOf_79, BwordOf_82, BwordOf_90, BwordOf_93, BwordOf_101, BwordOf_104, BwordOf_112, BwordOf_115, BwordOf_123, BwordOf_126, BwordOf_134, BwordOf_137, BwordOf_145, BwordOf_148, BwordOf_156, BwordOf_159, BwordOf_167, BwordOf_170, BwordOf_178, BwordOf_181, BwordOf_189, BwordOf_192, BwordOf_200, BwordOf_203, BwordOf_211, BwordOf_214, BwordOf_222, BwordOf_225, BwordOf_233, BwordOf_236, BwordOf_244, BwordOf_247, BwordOf_255, BwordOf_260, BwordOf_262, oi_0, oi_1, oi_10, oi_11, oi_12, oi_13, oi_14, oi_15, oi_16, oi_17, oi_18, oi_19, oi_2, oi_20, oi_21, oi_22, oi_23, oi_3, oi_4, oi_5, oi_6, oi_7, oi_8, oi_9, oi_m2]; try dsimp only
                                refine ⟨trivial, ?_⟩
                                exact ⟨_, rfl, rfl⟩
                            · apply hB
                              dsimp only [rgo, rfd, BwordOf, Nat.beq, rwp, rst, lv_args, rlk, rs1, rs2, rdl, rky, rct, rcs, rcd, rno, rsw, Value.category, List.filter, List.take, List.drop, List.reverse, List.reverseAux, List.cons_append, List.nil_append, Option.toList, Int.toNat, Int.reduceToNat, if_pos, if_neg, reduceIte, ↓reduceIte, Nat.reduceAdd, Nat.reduceEqDiff, Nat.reduceBEq, beq_self_eq_true, Bool.not_true, Bool.not_false, Bool.and_true, Bool.and_false, Bool.true_and, Bool.false_and, gI_sI, gI_sL, gI_sA, gI_sM, gL_sI, gL_sL, gL_sA, gL_sM, aI_sI, aI_sL, aI_sA, aI_sM, aL_sI, aL_sL, aL_sA, aL_sM, BwordOf_0, BwordOf_8, BwordOf_10, BwordOf_18, BwordOf_20, BwordOf_28, BwordOf_30, BwordOf_38, BwordOf_40, BwordOf_48, BwordOf_50, BwordOf_58, BwordOf_60, BwordOf_68, BwordOf_71, BwordOf_79, BwordOf_82, BwordOf_90, BwordOf_93, BwordOf_101, BwordOf_104, BwordOf_112, BwordOf_115, BwordOf_123, BwordOf_126, BwordOf_134, BwordOf_137, BwordOf_145, BwordOf_148, BwordOf_156, BwordOf_159, BwordOf_167, BwordOf_170, BwordOf_178, BwordOf_181, BwordOf_189, BwordOf_192, BwordOf_200, BwordOf_203, BwordOf_211, BwordOf_214, BwordOf_222, BwordOf_225, BwordOf_233, BwordOf_236, BwordOf_244, BwordOf_247, BwordOf_255, BwordOf_260, BwordOf_262, oi_0, oi_1, oi_10, oi_11, oi_12, oi_13, oi_14, oi_15, oi_16, oi_17, oi_18, oi_19, oi_2, oi_20, oi_21, oi_22, oi_23, oi_3, oi_4, oi_5, oi_6, oi_7, oi_8, oi_9, oi_m2]; try dsimp only
                              refine ⟨trivial, ?_⟩
                              exact ⟨_, rfl, rfl⟩
                          · apply hB
                            dsimp only [rgo, rfd, BwordOf, Nat.beq, rwp, rst, lv_args, rlk, rs1, rs2, rdl, rky, rct, rcs, rcd, rno, rsw, Value.category, List.filter, List.take, List.drop, List.reverse, List.reverseAux, List.cons_append, List.nil_append, Option.toList, Int.toNat, Int.reduceToNat, if_pos, if_neg, reduceIte, ↓reduceIte, Nat.reduceAdd, Nat.reduceEqDiff, Nat.reduceBEq, beq_self_eq_true, Bool.not_true, Bool.not_false, Bool.and_true, Bool.and_false, Bool.true_and, Bool.false_and, gI_sI, gI_sL, gI_sA, gI_sM, gL_sI, gL_sL, gL_sA, gL_sM, aI_sI, aI_sL, aI_sA, aI_sM, aL_sI, aL_sL, aL_sA, aL_sM, BwordOf_0, BwordOf_8, BwordOf_10, BwordOf_18, BwordOf_20, BwordOf_28, BwordOf_30, BwordOf_38, BwordOf_40, BwordOf_48, BwordOf_50, BwordOf_58, BwordOf_60, BwordOf_68, BwordOf_71, BwordOf_79, BwordOf_82, BwordOf_90, BwordOf_93, BwordOf_101, BwordOf_104, BwordOf_112, BwordOf_115, BwordOf_123, BwordOf_126, BwordOf_134, BwordOf_137, BwordOf_145, BwordOf_148, BwordOf_156, BwordOf_159, BwordOf_167, BwordOf_170, BwordOf_178, BwordOf_181, BwordOf_189, BwordOf_192, BwordOf_200, BwordOf_203, BwordOf_211, BwordOf_214, BwordOf_222, BwordOf_225, BwordOf_233, BwordOf_236, BwordOf_244, BwordOf_247, BwordOf_255, BwordOf_260, BwordOf_262, oi_0, oi_1, oi_10, oi_11, oi_12, oi_13, oi_14, oi_15, oi_16, oi_17, oi_18, oi_19, oi_2, oi_20, oi_21, oi_22, oi_23, oi_3, oi_4, oi_5, oi_6, oi_7, oi_8, oi_9, oi_m2]; try dsimp only
                            refine ⟨trivial, ?_⟩
                            exact ⟨_, rfl, rfl⟩
                        · apply hB
                          dsimp only [rgo, rfd, BwordOf, Nat.beq, rwp, rst, lv_args, rlk, rs1, rs2, rdl, rky, rct, rcs, rcd, rno, rsw, Value.category, List.filter, List.take, List.drop, List.reverse, List.reverseAux, List.cons_append, List.nil_append, Option.toList, Int.toNat, Int.reduceToNat, if_pos, if_neg, reduceIte, ↓reduceIte, Nat.reduceAdd, Nat.reduceEqDiff, Nat.reduceBEq, beq_self_eq_true, Bool.not_true, Bool.not_false, Bool.and_true, Bool.and_false, Bool.true_and, Bool.false_and, gI_sI, gI_sL, gI_sA, gI_sM, gL_sI, gL_sL, gL_sA, gL_sM, aI_sI, aI_sL, aI_sA, aI_sM, aL_sI, aL_sL, aL_sA, aL_sM, BwordOf_0, BwordOf_8, BwordOf_10, BwordOf_18, BwordOf_20, BwordOf_28, BwordOf_30, BwordOf_38, BwordOf_40, BwordOf_48, BwordOf_50, BwordOf_58, BwordOf_60, BwordOf_68, BwordOf_71, BwordOf_79, BwordOf_82, BwordOf_90, BwordOf_93, BwordOf_101, BwordOf_104, BwordOf_112, BwordOf_115, BwordOf_123, BwordOf_126, BwordOf_134, BwordOf_137, BwordOf_145, BwordOf_148, BwordOf_156, BwordOf_159, BwordOf_167, BwordOf_170, BwordOf_178, BwordOf_181, BwordOf_189, BwordOf_192, BwordOf_200, BwordOf_203, BwordOf_211, BwordOf_214, BwordOf_222, BwordOf_225, BwordOf_233, BwordOf_236, BwordOf_244, BwordOf_247, BwordOf_255, BwordOf_260, BwordOf_262, oi_0, oi_1, oi_10, oi_11, oi_12, oi_13, oi_14, oi_15, oi_16, oi_17, oi_18, oi_19, oi_2, oi_20, oi_21, oi_22, oi_23, oi_3, oi_4, oi_5, oi_6, oi_7, oi_8, oi_9, oi_m2]; try dsimp only
                          refine ⟨trivial, ?_⟩
                          exact ⟨_, rfl, rfl⟩
                      · apply hB
                        dsimp only [rgo, rfd, BwordOf, Nat.beq, rwp, rst, lv_args, rlk, rs1, rs2, rdl, rky, rct, rcs, rcd, rno, rsw, Value.category, List.filter, List.take, List.drop, List.reverse, List.reverseAux, List.cons_append, List.nil_append, Option.toList, Int.toNat, Int.reduceToNat, if_pos, if_neg, reduceIte, ↓reduceIte, Nat.reduceAdd, Nat.reduceEqDiff, Nat.reduceBEq, beq_self_eq_true, Bool.not_true, Bool.not_false, Bool.and_true, Bool.and_false, Bool.true_and, Bool.false_and, gI_sI, gI_sL, gI_sA, gI_sM, gL_sI, gL_sL, gL_sA, gL_sM, aI_sI, aI_sL, aI_sA, aI_sM, aL_sI, aL_sL, aL_sA, aL_sM, BwordOf_0, BwordOf_8, BwordOf_10, BwordOf_18, BwordOf_20, BwordOf_28, BwordOf_30, BwordOf_38, BwordOf_40, BwordOf_48, BwordOf_50, BwordOf_58, BwordOf_60, BwordOf_68, BwordOf_71, BwordOf_79, BwordOf_82, BwordOf_90, BwordOf_93, BwordOf_101, BwordOf_104, BwordOf_112, BwordOf_115, BwordOf_123, BwordOf_126, BwordOf_134, BwordOf_137, BwordOf_145, BwordOf_148, BwordOf_156, BwordOf_159, BwordOf_167, BwordOf_170, BwordOf_178, BwordOf_181, BwordOf_189, BwordOf_192, BwordOf_200, BwordOf_203, BwordOf_211, BwordOf_214, BwordOf_222, BwordOf_225, BwordOf_233, BwordOf_236, BwordOf_244, BwordOf_247, BwordOf_255, BwordOf_260, BwordOf_262, oi_0, oi_1, oi_10, oi_11, oi_12, oi_13, oi_14, oi_15, oi_16, oi_17, oi_18, oi_19, oi_2, oi_20, oi_21, oi_22, oi_23, oi_3, oi_4, oi_5, oi_6, oi_7, oi_8, oi_9, oi_m2]; try dsimp only
                        refine ⟨trivial, ?_⟩
                        exact ⟨_, rfl, rfl⟩
                    · apply hB
                      dsimp only [rgo, rfd, BwordOf, Nat.beq, rwp, rst, lv_args, rlk, rs1, rs2, rdl, rky, rct, rcs, rcd, rno, rsw, Value.category, List.filter, List.take, List.drop, List.reverse, List.reverseAux, List.cons_append, List.nil_append, Option.toList, Int.toNat, Int.reduceToNat, if_pos, if_neg, reduceIte, ↓reduceIte, Nat.reduceAdd, Nat.reduceEqDiff, Nat.reduceBEq, beq_self_eq_true, Bool.not_true, Bool.not_false, Bool.and_true, Bool.and_false, Bool.true_and, Bool.false_and, gI_sI, gI_sL, gI_sA, gI_sM, gL_sI, gL_sL, gL_sA, gL_sM, aI_sI, aI_sL, aI_sA, aI_sM, aL_sI, aL_sL, aL_sA, aL_sM, BwordOf_0, BwordOf_8, BwordOf_10, BwordOf_18, BwordOf_20, BwordOf_28, BwordOf_30, BwordOf_38, BwordOf_40, BwordOf_48, BwordOf_50, BwordOf_58, BwordOf_60, BwordOf_68, BwordOf_71, BwordOf_79, BwordOf_82, BwordOf_90, BwordOf_93, BwordOf_101, BwordOf_104, BwordOf_112, BwordOf_115, BwordOf_123, BwordOf_126, BwordOf_134, BwordOf_137, BwordOf_145, BwordOf_148, BwordOf_156, BwordOf_159, BwordOf_167, BwordOf_170, BwordOf_178, BwordOf_181, BwordOf_189, BwordOf_192, BwordOf_200, BwordOf_203, BwordOf_211, BwordOf_214, BwordOf_222, BwordOf_225, BwordOf_233, BwordOf_236, BwordOf_244, BwordOf_247, BwordOf_255, BwordOf_260, BwordOf_262, oi_0, oi_1, oi_10, oi_11, oi_12, oi_13, oi_14, oi_15, oi_16, oi_17, oi_18, oi_19, oi_2, oi_20, oi_21, oi_22, oi_23, oi_3, oi_4, oi_5, oi_6, oi_7, oi_8, oi_9, oi_m2]; try dsimp only
                      refine ⟨trivial, ?_⟩
                      exact ⟨_, rfl, rfl⟩
                  · apply hB
                    dsimp only [rgo, rfd, BwordOf, Nat.beq, rwp, rst, lv_args, rlk, rs1, rs2, rdl, rky, rct, rcs, rcd, rno, rsw, Value.category, List.filter, List.take, List.drop, List.reverse, List.reverseAux, List.cons_append, List.nil_append, Option.toList, Int.toNat, Int.reduceToNat, if_pos, if_neg, reduceIte, ↓reduceIte, Nat.reduceAdd, Nat.reduceEqDiff, Nat.reduceBEq, beq_self_eq_true, Bool.not_true, Bool.not_false, Bool.and_true, Bool.and_false, Bool.true_and, Bool.false_and, gI_sI, gI_sL, gI_sA, gI_sM, gL_sI, gL_sL, gL_sA, gL_sM, aI_sI, aI_sL, aI_sA, aI_sM, aL_sI, aL_sL, aL_sA, aL_sM, BwordOf_0, BwordOf_8, BwordOf_10, BwordOf_18, BwordOf_20, BwordOf_28, BwordOf_30, BwordOf_38, BwordOf_40, BwordOf_48, BwordOf_50, BwordOf_58, BwordOf_60, BwordOf_68, BwordOf_71, BwordOf_79, BwordOf_82, BwordOf_90, BwordOf_93, BwordOf_101, BwordOf_104, BwordOf_112, BwordOf_115, BwordOf_123, BwordOf_126, BwordOf_134, BwordOf_137, BwordOf_145, BwordOf_148, BwordOf_156, BwordOf_159, BwordOf_167, BwordOf_170, BwordOf_178, BwordOf_181, BwordOf_189, BwordOf_192, BwordOf_200, BwordOf_203, BwordOf_211, BwordOf_214, BwordOf_222, BwordOf_225, BwordOf_233, BwordOf_236, BwordOf_244, BwordOf_247, BwordOf_255, BwordOf_260, BwordOf_262, oi_0, oi_1, oi_10, oi_11, oi_12, oi_13, oi_14, oi_15, oi_16, oi_17, oi_18, oi_19, oi_2, oi_20, oi_21, oi_22, oi_23, oi_3, oi_4, oi_5, oi_6, oi_7, oi_8, oi_9, oi_m2]; try dsimp only
                    refine ⟨trivial, ?_⟩
                    exact ⟨_, rfl, rfl⟩
                · apply hB
                  dsimp only [rgo, rfd, BwordOf, Nat.beq, rwp, rst, lv_args, rlk, rs1, rs2, rdl, rky, rct, rcs, rcd, rno, rsw, Value.category, List.filter, List.take, List.drop, List.reverse, List.reverseAux, List.cons_append, List.nil_append, Option.toList, Int.toNat, Int.reduceToNat, if_pos, if_neg, reduceIte, ↓reduceIte, Nat.reduceAdd, Nat.reduceEqDiff, Nat.reduceBEq, beq_self_eq_true, Bool.not_true, Bool.not_false, Bool.and_true, Bool.and_false, Bool.true_and, Bool.false_and, gI_sI, gI_sL, gI_sA, gI_sM, gL_sI, gL_sL, gL_sA, gL_sM, aI_sI, aI_sL, aI_sA, aI_sM, aL_sI, aL_sL, aL_sA, aL_sM, BwordOf_0, BwordOf_8, BwordOf_10, BwordOf_18, BwordOf_20, BwordOf_28, BwordOf_30, BwordOf_38, BwordOf_40, BwordOf_48, BwordOf_50, BwordOf_58, BwordOf_60, BwordOf_68, BwordOf_71, BwordOf_79, BwordOf_82, BwordOf_90, BwordOf_93, BwordOf_101, BwordOf_104, BwordOf_112, BwordOf_115, BwordOf_123, BwordOf_126, BwordOf_134, BwordOf_137, BwordOf_145, BwordOf_148, BwordOf_156, BwordOf_159, BwordOf_167, BwordOf_170, BwordOf_178, BwordOf_181, BwordOf_189, BwordOf_192, BwordOf_200, BwordOf_203, BwordOf_211, BwordOf_214, BwordOf_222, BwordOf_225, BwordOf_233, BwordOf_236, BwordOf_244, BwordOf_247, BwordOf_255, BwordOf_260, BwordOf_262, oi_0, oi_1, oi_10, oi_11, oi_12, oi_13, oi_14, oi_15, oi_16, oi_17, oi_18, oi_19, oi_2, oi_20, oi_21, oi_22, oi_23, oi_3, oi_4, oi_5, oi_6, oi_7, oi_8, oi_9, oi_m2]; try dsimp only
                  refine ⟨trivial, ?_⟩
                  exact ⟨_, rfl, rfl⟩
              · apply hB
                dsimp only [rgo, rfd, BwordOf, Nat.beq, rwp, rst, lv_args, rlk, rs1, rs2, rdl, rky, rct, rcs, rcd, rno, rsw, Value.category, List.filter, List.take, List.drop, List.reverse, List.reverseAux, List.cons_append, List.nil_append, Option.toList, Int.toNat, Int.reduceToNat, if_pos, if_neg, reduceIte, ↓reduceIte, Nat.reduceAdd, Nat.reduceEqDiff, Nat.reduceBEq, beq_self_eq_true, Bool.not_true, Bool.not_false, Bool.and_true, Bool.and_false, Bool.true_and, Bool.false_and, gI_sI, gI_sL, gI_sA, gI_sM, gL_sI, gL_sL, gL_sA, gL_sM, aI_sI, aI_sL, aI_sA, aI_sM, aL_sI, aL_sL, aL_sA, aL_sM, BwordOf_0, BwordOf_8, BwordOf_10, BwordOf_18, BwordOf_20, BwordOf_28, BwordOf_30, BwordOf_38, BwordOf_40, BwordOf_48, BwordOf_50, BwordOf_58, BwordOf_60, BwordOf_68, BwordOf_71, BwordOf_79, BwordOf_82, BwordOf_90, BwordOf_93, BwordOf_101, BwordOf_104, BwordOf_112, BwordOf_115, BwordOf_123, BwordOf_126, BwordOf_134, BwordOf_137, BwordOf_145, BwordOf_148, BwordOf_156, BwordOf_159, BwordOf_167, BwordOf_170, BwordOf_178, BwordOf_181, BwordOf_189, BwordOf_192, BwordOf_200, BwordOf_203, BwordOf_211, BwordOf_214, BwordOf_222, BwordOf_225, BwordOf_233, BwordOf_236, BwordOf_244, BwordOf_247, BwordOf_255, BwordOf_260, BwordOf_262, oi_0, oi_1, oi_10, oi_11, oi_12, oi_13, oi_14, oi_15, oi_16, oi_17, oi_18, oi_19, oi_2, oi_20, oi_21, oi_22, oi_23, oi_3, oi_4, oi_5, oi_6, oi_7, oi_8, oi_9, oi_m2]; try dsimp only
                refine ⟨trivial, ?_⟩
                exact ⟨_, rfl, rfl⟩
            · apply hB
              dsimp only [rgo, rfd, BwordOf, Nat.beq, rwp, rst, lv_args, rlk, rs1, rs2, rdl, rky, rct, rcs, rcd, rno, rsw, Value.category, List.filter, List.take, List.drop, List.reverse, List.reverseAux, List.cons_append, List.nil_append, Option.toList, Int.toNat, Int.reduceToNat, if_pos, if_neg, reduceIte, ↓reduceIte, Nat.reduceAdd, Nat.reduceEqDiff, Nat.reduceBEq, beq_self_eq_true, Bool.not_true, Bool.not_false, Bool.and_true, Bool.and_false, Bool.true_and, Bool.false_and, gI_sI, gI_sL, gI_sA, gI_sM, gL_sI, gL_sL, gL_sA, gL_sM, aI_sI, aI_sL, aI_sA, aI_sM, aL_sI, aL_sL, aL_sA, aL_sM, BwordOf_0, BwordOf_8, BwordOf_10, BwordOf_18, BwordOf_20, BwordOf_28, BwordOf_30, BwordOf_38, BwordOf_40, BwordOf_48, BwordOf_50, BwordOf_58, BwordOf_60, BwordOf_68, BwordOf_71, BwordOf_79, BwordOf_82, BwordOf_90, BwordOf_93, BwordOf_101, BwordOf_104, BwordOf_112, BwordOf_115, BwordOf_123, BwordOf_126, BwordOf_134, BwordOf_137, BwordOf_145, BwordOf_148, BwordOf_156, BwordOf_159, BwordOf_167, BwordOf_170, BwordOf_178, BwordOf_181, BwordOf_189, BwordOf_192, BwordOf_200, BwordOf_203, BwordOf_211, BwordOf_214, BwordOf_222, BwordOf_225, BwordOf_233, BwordOf_236, BwordOf_244, BwordOf_247, BwordOf_255, BwordOf_260, BwordOf_262, oi_0, oi_1, oi_10, oi_11, oi_12, oi_13, oi_14, oi_15, oi_16, oi_17, oi_18, oi_19, oi_2, oi_20, oi_21, oi_22, oi_23, oi_3, oi_4, oi_5, oi_6, oi_7, oi_8, oi_9, oi_m2]; try dsimp only
              refine ⟨trivial, ?_⟩
              exact ⟨_, rfl, rfl⟩
          · apply hB
            dsimp only [rgo, rfd, BwordOf, Nat.beq, rwp, rst, lv_args, rlk, rs1, rs2, rdl, rky, rct, rcs, rcd, rno, rsw, Value.category, List.filter, List.take, List.drop, List.reverse, List.reverseAux, List.cons_append, List.nil_append, Option.toList, Int.toNat, Int.reduceToNat, if_pos, if_neg, reduceIte, ↓reduceIte, Nat.reduceAdd, Nat.reduceEqDiff, Nat.reduceBEq, beq_self_eq_true, Bool.not_true, Bool.not_false, Bool.and_true, Bool.and_false, Bool.true_and, Bool.false_and, gI_sI, gI_sL, gI_sA, gI_sM, gL_sI, gL_sL, gL_sA, gL_sM, aI_sI, aI_sL, aI_sA, aI_sM, aL_sI, aL_sL, aL_sA, aL_sM, BwordOf_0, BwordOf_8, BwordOf_10, BwordOf_18, BwordOf_20, BwordOf_28, BwordOf_30, BwordOf_38, BwordOf_40, BwordOf_48, BwordOf_50, BwordOf_58, BwordOf_60, BwordOf_68, BwordOf_71, BwordOf_79, BwordOf_82, BwordOf_90, BwordOf_93, BwordOf_101, BwordOf_104, BwordOf_112, BwordOf_115, BwordOf_123, BwordOf_126, BwordOf_134, BwordOf_137, BwordOf_145, BwordOf_148, BwordOf_156, BwordOf_159, BwordOf_167, BwordOf_170, BwordOf_178, BwordOf_181, BwordOf_189, BwordOf_192, BwordOf_200, BwordOf_203, BwordOf_211, BwordOf_214, BwordOf_222, BwordOf_225, BwordOf_233, BwordOf_236, BwordOf_244, BwordOf_247, BwordOf_255, BwordOf_260, BwordOf_262, oi_0, oi_1, oi_10, oi_11, oi_12, oi_13, oi_14, oi_15, oi_16, oi_17, oi_18, oi_19, oi_2, oi_20, oi_21, oi_22, oi_23, oi_3, oi_4, oi_5, oi_6, oi_7, oi_8, oi_9, oi_m2]; try dsimp only
            refine ⟨trivial, ?_⟩
            exact ⟨_, rfl, rfl⟩
        · apply hB
          dsimp only [rgo, rfd, BwordOf, Nat.beq, rwp, rst, lv_args, rlk, rs1, rs2, rdl, rky, rct, rcs, rcd, rno, rsw, Value.category, List.filter, List.take, List.drop, List.reverse, List.reverseAux, List.cons_append, List.nil_append, Option.toList, Int.toNat, Int.reduceToNat, if_pos, if_neg, reduceIte, ↓reduceIte, Nat.reduceAdd, Nat.reduceEqDiff, Nat.reduceBEq, beq_self_eq_true, Bool.not_true, Bool.not_false, Bool.and_true, Bool.and_false, Bool.true_and, Bool.false_and, gI_sI, gI_sL, gI_sA, gI_sM, gL_sI, gL_sL, gL_sA, gL_sM, aI_sI, aI_sL, aI_sA, aI_sM, aL_sI, aL_sL, aL_sA, aL_sM, BwordOf_0, BwordOf_8, BwordOf_10, BwordOf_18, BwordOf_20, BwordOf_28, BwordOf_30, BwordOf_38, BwordOf_40, BwordOf_48, BwordOf_50, BwordOf_58, BwordOf_60, BwordOf_68, BwordOf_71, BwordOf_79, BwordOf_82, BwordOf_90, BwordOf_93, BwordOf_101, BwordOf_104, BwordOf_112, BwordOf_115, BwordOf_123, BwordOf_126, BwordOf_134, BwordOf_137, BwordOf_145, BwordOf_148, BwordOf_156, BwordOf_159, BwordOf_167, BwordOf_170, BwordOf_178, BwordOf_181, BwordOf_189, BwordOf_192, BwordOf_200, BwordOf_203, BwordOf_211, BwordOf_214, BwordOf_222, BwordOf_225, BwordOf_233, BwordOf_236, BwordOf_244, BwordOf_247, BwordOf_255, BwordOf_260, BwordOf_262, oi_0, oi_1, oi_10, oi_11, oi_12, oi_13, oi_14, oi_15, oi_16, oi_17, oi_18, oi_19, oi_2, oi_20, oi_21, oi_22, oi_23, oi_3, oi_4, oi_5, oi_6, oi_7, oi_8, oi_9, oi_m2]; try dsimp only
          refine ⟨trivial, ?_⟩
          exact ⟨_, rfl, rfl⟩
      · apply hB
        dsimp only [rgo, rfd, BwordOf, Nat.beq, rwp, rst, lv_args, rlk, rs1, rs2, rdl, rky, rct, rcs, rcd, rno, rsw, Value.category, List.filter, List.take, List.drop, List.reverse, List.reverseAux, List.cons_append, List.nil_append, Option.toList, Int.toNat, Int.reduceToNat, if_pos, if_neg, reduceIte, ↓reduceIte, Nat.reduceAdd, Nat.reduceEqDiff, Nat.reduceBEq, beq_self_eq_true, Bool.not_true, Bool.not_false, Bool.and_true, Bool.and_false, Bool.true_and, Bool.false_and, gI_sI, gI_sL, gI_sA, gI_sM, gL_sI, gL_sL, gL_sA, gL_sM, aI_sI, aI_sL, aI_sA, aI_sM, aL_sI, aL_sL, aL_sA, aL_sM, BwordOf_0, BwordOf_8, BwordOf_10, BwordOf_18, BwordOf_20, BwordOf_28, BwordOf_30, BwordOf_38, BwordOf_40, BwordOf_48, BwordOf_50, BwordOf_58, BwordOf_60, BwordOf_68, BwordOf_71, BwordOf_79, BwordOf_82, BwordOf_90, BwordOf_93, BwordOf_101, BwordOf_104, BwordOf_112, BwordOf_115, BwordOf_123, BwordOf_126, BwordOf_134, BwordOf_137, BwordOf_145, BwordOf_148, BwordOf_156, BwordOf_159, BwordOf_167, BwordOf_170, BwordOf_178, BwordOf_181, BwordOf_189, BwordOf_192, BwordOf_200, BwordOf_203, BwordOf_211, BwordOf_214, BwordOf_222, BwordOf_225, BwordOf_233, BwordOf_236, BwordOf_244, BwordOf_247, BwordOf_255, BwordOf_260, BwordOf_262, oi_0, oi_1, oi_10, oi_11, oi_12, oi_13, oi_14, oi_15, oi_16, oi_17, oi_18, oi_19, oi_2, oi_20, oi_21, oi_22, oi_23, oi_3, oi_4, oi_5, oi_6, oi_7, oi_8, oi_9, oi_m2]; try dsimp only
        refine ⟨trivial, ?_⟩
        exact ⟨_, rfl, rfl⟩
    next => exact hP.elim
theorem m_wordOf (l : Launch) : RMet l 1 8 P_wordOf Q_wordOf := by
  refine RMet.by BwordOf [] rowordOf okBwordOf ct0 ?_ b_wordOf
  · intro As σ hP
    unfold P_wordOf at hP
    split at hP
    next => exact Nat.le_of_ble_eq_true rfl
    next => exact hP.elim
set_option maxRecDepth 100000 in
theorem e_wordOf (l : Launch) : RMetE l 1 8 P_wordOf Q_wordOf := by
  refine RMetE.by BwordOf [] rfl rfl rowordOf okBwordOf ctE0 ?_ b_wordOf
  · intro As σ hP
    unfold P_wordOf at hP
    split at hP
    next => exact Nat.le_of_ble_eq_true rfl
    next => exact hP.elim
def P_place : RP := fun As σ => match As with
  | [] => True
  | _ => False
def Q_place : RQ := fun As σ w τ => match As with
  | [] => w = some (.int (gI σ 120)) ∧ τ = σ
  | _ => False
set_option maxRecDepth 100000 in
set_option maxHeartbeats 4000000 in
theorem m_place (l : Launch) : RMet l 1 124 P_place Q_place := by
  refine RMet.by Bplace [] roplace okBplace ct0 ?_ ?_
  · intro As σ hP
    unfold P_place at hP
    split at hP
    next => exact Nat.le_of_ble_eq_true rfl
    next => exact hP.elim
  · intro As σ hP G hB hW
    unfold P_place at hP
    split at hP
    next => 
      unfold Q_place at hB
      dsimp only at hB
      apply hB
      dsimp only [rgo, rfd, Bplace, Nat.beq, rwp, rst, lv_args, rlk, rs1, rs2, rdl, rky, rct, rcs, rcd, rno, rsw, Value.category, List.filter, List.take, List.drop, List.reverse, List.reverseAux, List.cons_append, List.nil_append, Option.toList, Int.toNat, Int.reduceToNat, if_pos, if_neg, reduceIte, ↓reduceIte, Nat.reduceAdd, Nat.reduceEqDiff, Nat.reduceBEq, beq_self_eq_true, Bool.not_true, Bool.not_false, Bool.and_true, Bool.and_false, Bool.true_and, Bool.false_and, gI_sI, gI_sL, gI_sA, gI_sM, gL_sI, gL_sL, gL_sA, gL_sM, aI_sI, aI_sL, aI_sA, aI_sM, aL_sI, aL_sL, aL_sA, aL_sM, Bplace_0]; try dsimp only
      refine ⟨rfl, trivial, ?_⟩
      exact ⟨rfl, rfl⟩
    next => exact hP.elim
def P_drain : RP := fun As σ => match As with
  | [] => True
  | _ => False
def Q_drain : RQ := fun As σ w τ => match As with
  | [] => w = some (.int (gI σ 123)) ∧ τ = sI σ 123 0
  | _ => False
set_option maxRecDepth 100000 in
set_option maxHeartbeats 4000000 in
theorem m_drain (l : Launch) : RMet l 1 141 P_drain Q_drain := by
  refine RMet.by Bdrain [] rodrain okBdrain ct0 ?_ ?_
  · intro As σ hP
    unfold P_drain at hP
    split at hP
    next => exact Nat.le_of_ble_eq_true rfl
    next => exact hP.elim
  · intro As σ hP G hB hW
    unfold P_drain at hP
    split at hP
    next => 
      unfold Q_drain at hB
      dsimp only at hB
      apply hB
      dsimp only [rgo, rfd, Bdrain, Nat.beq, rwp, rst, lv_args, rlk, rs1, rs2, rdl, rky, rct, rcs, rcd, rno, rsw, Value.category, List.filter, List.take, List.drop, List.reverse, List.reverseAux, List.cons_append, List.nil_append, Option.toList, Int.toNat, Int.reduceToNat, if_pos, if_neg, reduceIte, ↓reduceIte, Nat.reduceAdd, Nat.reduceEqDiff, Nat.reduceBEq, beq_self_eq_true, Bool.not_true, Bool.not_false, Bool.and_true, Bool.and_false, Bool.true_and, Bool.false_and, gI_sI, gI_sL, gI_sA, gI_sM, gL_sI, gL_sL, gL_sA, gL_sM, aI_sI, aI_sL, aI_sA, aI_sM, aL_sI, aL_sL, aL_sA, aL_sM, Bdrain_0, oi_0]; try dsimp only
      refine ⟨rfl, rfl, trivial, ?_⟩
      exact ⟨rfl, rfl⟩
    next => exact hP.elim
def P_argument : RP := fun As σ => match As with
  | [.int i, .long v] => True
  | _ => False
def Q_argument : RQ := fun As σ w τ => match As with
  | [.int i, .long v] => ((i < 0 ∨ 5 < i) ∧ w = some (.int (-1)) ∧ τ = σ) ∨ ((0 ≤ i ∧ i ≤ 5) ∧ w = some (.int 1) ∧ ∃ f, τ = sM σ 124 f)
  | _ => False
set_option maxRecDepth 100000 in
set_option maxHeartbeats 4000000 in
theorem m_argument (l : Launch) : RMet l 1 139 P_argument Q_argument := by
  refine RMet.by Bargument [] roargument okBargument ct0 ?_ ?_
  · intro As σ hP
    unfold P_argument at hP
    split at hP
    next => exact Nat.le_of_ble_eq_true rfl
    next => exact hP.elim
  · intro As σ hP G hB hW
    unfold P_argument at hP
    split at hP
    next i v => 
      unfold Q_argument at hB
      dsimp only at hB
      apply hB
      dsimp only [rgo, rfd, Bargument, Nat.beq, rwp, rst, lv_args, rlk, rs1, rs2, rdl, rky, rct, rcs, rcd, rno, rsw, Value.category, List.filter, List.take, List.drop, List.reverse, List.reverseAux, List.cons_append, List.nil_append, Option.toList, Int.toNat, Int.reduceToNat, if_pos, if_neg, reduceIte, ↓reduceIte, Nat.reduceAdd, Nat.reduceEqDiff, Nat.reduceBEq, beq_self_eq_true, Bool.not_true, Bool.not_false, Bool.and_true, Bool.and_false, Bool.true_and, Bool.false_and, gI_sI, gI_sL, gI_sA, gI_sM, gL_sI, gL_sL, gL_sA, gL_sM, aI_sI, aI_sL, aI_sA, aI_sM, aL_sI, aL_sL, aL_sA, aL_sM, Bargument_0, Bargument_4, Bargument_9, Bargument_11, oi_1, oi_5, oi_m1]; try dsimp only
      refine ⟨fun h1 => ?_, fun h1 => ?_⟩
      · apply hB
        dsimp only [rgo, rfd, Bargument, Nat.beq, rwp, rst, lv_args, rlk, rs1, rs2, rdl, rky, rct, rcs, rcd, rno, rsw, Value.category, List.filter, List.take, List.drop, List.reverse, List.reverseAux, List.cons_append, List.nil_append, Option.toList, Int.toNat, Int.reduceToNat, if_pos, if_neg, reduceIte, ↓reduceIte, Nat.reduceAdd, Nat.reduceEqDiff, Nat.reduceBEq, beq_self_eq_true, Bool.not_true, Bool.not_false, Bool.and_true, Bool.and_false, Bool.true_and, Bool.false_and, gI_sI, gI_sL, gI_sA, gI_sM, gL_sI, gL_sL, gL_sA, gL_sM, aI_sI, aI_sL, aI_sA, aI_sM, aL_sI, aL_sL, aL_sA, aL_sM, Bargument_0, Bargument_4, Bargument_9, Bargument_11, oi_1, oi_5, oi_m1]; try dsimp only
        refine ⟨trivial, ?_⟩
        exact Or.inl ⟨by lia, rfl, rfl⟩
      · apply hB
        dsimp only [rgo, rfd, Bargument, Nat.beq, rwp, rst, lv_args, rlk, rs1, rs2, rdl, rky, rct, rcs, rcd, rno, rsw, Value.category, List.filter, List.take, List.drop, List.reverse, List.reverseAux, List.cons_append, List.nil_append, Option.toList, Int.toNat, Int.reduceToNat, if_pos, if_neg, reduceIte, ↓reduceIte, Nat.reduceAdd, Nat.reduceEqDiff, Nat.reduceBEq, beq_self_eq_true, Bool.not_true, Bool.not_false, Bool.and_true, Bool.and_false, Bool.true_and, Bool.false_and, gI_sI, gI_sL, gI_sA, gI_sM, gL_sI, gL_sL, gL_sA, gL_sM, aI_sI, aI_sL, aI_sA, aI_sM, aL_sI, aL_sL, aL_sA, aL_sM, Bargument_0, Bargument_4, Bargument_9, Bargument_11, oi_1, oi_5, oi_m1]; try dsimp only
        refine ⟨fun h2 => ?_, fun h2 => ?_⟩
        · apply hB
          dsimp only [rgo, rfd, Bargument, Nat.beq, rwp, rst, lv_args, rlk, rs1, rs2, rdl, rky, rct, rcs, rcd, rno, rsw, Value.category, List.filter, List.take, List.drop, List.reverse, List.reverseAux, List.cons_append, List.nil_append, Option.toList, Int.toNat, Int.reduceToNat, if_pos, if_neg, reduceIte, ↓reduceIte, Nat.reduceAdd, Nat.reduceEqDiff, Nat.reduceBEq, beq_self_eq_true, Bool.not_true, Bool.not_false, Bool.and_true, Bool.and_false, Bool.true_and, Bool.false_and, gI_sI, gI_sL, gI_sA, gI_sM, gL_sI, gL_sL, gL_sA, gL_sM, aI_sI, aI_sL, aI_sA, aI_sM, aL_sI, aL_sL, aL_sA, aL_sM, Bargument_0, Bargument_4, Bargument_9, Bargument_11, oi_1, oi_5, oi_m1]; try dsimp only
          refine ⟨rfl, rfl, (in_124 (by lia) (by lia)), trivial, ?_⟩
          exact Or.inr ⟨⟨by lia, by lia⟩, rfl, _, rfl⟩
        · apply hB
          dsimp only [rgo, rfd, Bargument, Nat.beq, rwp, rst, lv_args, rlk, rs1, rs2, rdl, rky, rct, rcs, rcd, rno, rsw, Value.category, List.filter, List.take, List.drop, List.reverse, List.reverseAux, List.cons_append, List.nil_append, Option.toList, Int.toNat, Int.reduceToNat, if_pos, if_neg, reduceIte, ↓reduceIte, Nat.reduceAdd, Nat.reduceEqDiff, Nat.reduceBEq, beq_self_eq_true, Bool.not_true, Bool.not_false, Bool.and_true, Bool.and_false, Bool.true_and, Bool.false_and, gI_sI, gI_sL, gI_sA, gI_sM, gL_sI, gL_sL, gL_sA, gL_sM, aI_sI, aI_sL, aI_sA, aI_sM, aL_sI, aL_sL, aL_sA, aL_sM, Bargument_0, Bargument_4, Bargument_9, Bargument_11, oi_1, oi_5, oi_m1]; try dsimp only
          refine ⟨trivial, ?_⟩
          exact Or.inl ⟨by lia, rfl, rfl⟩
    next => exact hP.elim
def P_input : RP := fun As σ => match As with
  | [.int v] => 0 ≤ gI σ 123 ∧ gI σ 123 ≤ 40
  | _ => False
def Q_input : RQ := fun As σ w τ => match As with
  | [.int v] => (gI σ 123 = 40 ∧ w = some (.int (-3)) ∧ τ = σ) ∨ (gI σ 123 < 40 ∧ w = some (.int (gI σ 123 + 1)) ∧ ∃ f, τ = sI (sA σ 122 f) 123 (gI σ 123 + 1))
  | _ => False
set_option maxRecDepth 100000 in
set_option maxHeartbeats 4000000 in
theorem m_input (l : Launch) : RMet l 1 140 P_input Q_input := by
  refine RMet.by Binput [] roinput okBinput ct0 ?_ ?_
  · intro As σ hP
    unfold P_input at hP
    split at hP
    next => exact Nat.le_of_ble_eq_true rfl
    next => exact hP.elim
  · intro As σ hP G hB hW
    unfold P_input at hP
    split at hP
    next v => 
      unfold Q_input at hB
      dsimp only at hB
      apply hB
      dsimp only [rgo, rfd, Binput, Nat.beq, rwp, rst, lv_args, rlk, rs1, rs2, rdl, rky, rct, rcs, rcd, rno, rsw, Value.category, List.filter, List.take, List.drop, List.reverse, List.reverseAux, List.cons_append, List.nil_append, Option.toList, Int.toNat, Int.reduceToNat, if_pos, if_neg, reduceIte, ↓reduceIte, Nat.reduceAdd, Nat.reduceEqDiff, Nat.reduceBEq, beq_self_eq_true, Bool.not_true, Bool.not_false, Bool.and_true, Bool.and_false, Bool.true_and, Bool.false_and, gI_sI, gI_sL, gI_sA, gI_sM, gL_sI, gL_sL, gL_sA, gL_sM, aI_sI, aI_sL, aI_sA, aI_sM, aL_sI, aL_sL, aL_sA, aL_sM, Binput_0, Binput_9, Binput_12, oi_1, oi_40, oi_m3]; try dsimp only
      refine ⟨rfl, fun h1 => ?_, fun h1 => ?_⟩
      · apply hB
        dsimp only [rgo, rfd, Binput, Nat.beq, rwp, rst, lv_args, rlk, rs1, rs2, rdl, rky, rct, rcs, rcd, rno, rsw, Value.category, List.filter, List.take, List.drop, List.reverse, List.reverseAux, List.cons_append, List.nil_append, Option.toList, Int.toNat, Int.reduceToNat, if_pos, if_neg, reduceIte, ↓reduceIte, Nat.reduceAdd, Nat.reduceEqDiff, Nat.reduceBEq, beq_self_eq_true, Bool.not_true, Bool.not_false, Bool.and_true, Bool.and_false, Bool.true_and, Bool.false_and, gI_sI, gI_sL, gI_sA, gI_sM, gL_sI, gL_sL, gL_sA, gL_sM, aI_sI, aI_sL, aI_sA, aI_sM, aL_sI, aL_sL, aL_sA, aL_sM, Binput_0, Binput_9, Binput_12, oi_1, oi_40, oi_m3]; try dsimp only
        refine ⟨rfl, rfl, rfl, (in_122 (by lia) (by lia)), rfl, rfl, rfl, trivial, ?_⟩
        exact Or.inr ⟨by lia, rfl, _, rfl⟩
      · apply hB
        dsimp only [rgo, rfd, Binput, Nat.beq, rwp, rst, lv_args, rlk, rs1, rs2, rdl, rky, rct, rcs, rcd, rno, rsw, Value.category, List.filter, List.take, List.drop, List.reverse, List.reverseAux, List.cons_append, List.nil_append, Option.toList, Int.toNat, Int.reduceToNat, if_pos, if_neg, reduceIte, ↓reduceIte, Nat.reduceAdd, Nat.reduceEqDiff, Nat.reduceBEq, beq_self_eq_true, Bool.not_true, Bool.not_false, Bool.and_true, Bool.and_false, Bool.true_and, Bool.false_and, gI_sI, gI_sL, gI_sA, gI_sM, gL_sI, gL_sL, gL_sA, gL_sM, aI_sI, aI_sL, aI_sA, aI_sM, aL_sI, aL_sL, aL_sA, aL_sM, Binput_0, Binput_9, Binput_12, oi_1, oi_40, oi_m3]; try dsimp only
        refine ⟨trivial, ?_⟩
        exact Or.inl ⟨by lia, rfl, rfl⟩
    next => exact hP.elim
def P_cut : RP := fun As σ => match As with
  | [.int n] => 0 ≤ (gI σ 1) ∧ (gI σ 1) ≤ 2500
  | _ => False
def Q_cut : RQ := fun As σ w τ => match As with
  | [.int n] => ((n < 0 ∨ (gI σ 1) < n) ∧ w = some (.int (-1)) ∧ τ = σ) ∨ ((0 ≤ n ∧ n ≤ (gI σ 1)) ∧ w = some (.int ((gI σ 1) - n)) ∧ τ = sI σ 1 ((gI σ 1) - n))
  | _ => False
set_option maxRecDepth 100000 in
set_option maxHeartbeats 4000000 in
theorem m_cut (l : Launch) : RMet l 1 2 P_cut Q_cut := by
  refine RMet.by Bcut [] rocut okBcut ct0 ?_ ?_
  · intro As σ hP
    unfold P_cut at hP
    split at hP
    next => exact Nat.le_of_ble_eq_true rfl
    next => exact hP.elim
  · intro As σ hP G hB hW
    unfold P_cut at hP
    split at hP
    next n => 
      unfold Q_cut at hB
      dsimp only at hB
      apply hB
      dsimp only [rgo, rfd, Bcut, Nat.beq, rwp, rst, lv_args, rlk, rs1, rs2, rdl, rky, rct, rcs, rcd, rno, rsw, Value.category, List.filter, List.take, List.drop, List.reverse, List.reverseAux, List.cons_append, List.nil_append, Option.toList, Int.toNat, Int.reduceToNat, if_pos, if_neg, reduceIte, ↓reduceIte, Nat.reduceAdd, Nat.reduceEqDiff, Nat.reduceBEq, beq_self_eq_true, Bool.not_true, Bool.not_false, Bool.and_true, Bool.and_false, Bool.true_and, Bool.false_and, gI_sI, gI_sL, gI_sA, gI_sM, gL_sI, gL_sL, gL_sA, gL_sM, aI_sI, aI_sL, aI_sA, aI_sM, aL_sI, aL_sL, aL_sA, aL_sM, Bcut_0, Bcut_4, Bcut_12, Bcut_14, oi_m1]; try dsimp only
      refine ⟨fun h1 => ?_, fun h1 => ?_⟩
      · apply hB
        dsimp only [rgo, rfd, Bcut, Nat.beq, rwp, rst, lv_args, rlk, rs1, rs2, rdl, rky, rct, rcs, rcd, rno, rsw, Value.category, List.filter, List.take, List.drop, List.reverse, List.reverseAux, List.cons_append, List.nil_append, Option.toList, Int.toNat, Int.reduceToNat, if_pos, if_neg, reduceIte, ↓reduceIte, Nat.reduceAdd, Nat.reduceEqDiff, Nat.reduceBEq, beq_self_eq_true, Bool.not_true, Bool.not_false, Bool.and_true, Bool.and_false, Bool.true_and, Bool.false_and, gI_sI, gI_sL, gI_sA, gI_sM, gL_sI, gL_sL, gL_sA, gL_sM, aI_sI, aI_sL, aI_sA, aI_sM, aL_sI, aL_sL, aL_sA, aL_sM, Bcut_0, Bcut_4, Bcut_12, Bcut_14, oi_m1]; try dsimp only
        refine ⟨trivial, ?_⟩
        exact Or.inl ⟨by lia, rfl, rfl⟩
      · apply hB
        dsimp only [rgo, rfd, Bcut, Nat.beq, rwp, rst, lv_args, rlk, rs1, rs2, rdl, rky, rct, rcs, rcd, rno, rsw, Value.category, List.filter, List.take, List.drop, List.reverse, List.reverseAux, List.cons_append, List.nil_append, Option.toList, Int.toNat, Int.reduceToNat, if_pos, if_neg, reduceIte, ↓reduceIte, Nat.reduceAdd, Nat.reduceEqDiff, Nat.reduceBEq, beq_self_eq_true, Bool.not_true, Bool.not_false, Bool.and_true, Bool.and_false, Bool.true_and, Bool.false_and, gI_sI, gI_sL, gI_sA, gI_sM, gL_sI, gL_sL, gL_sA, gL_sM, aI_sI, aI_sL, aI_sA, aI_sM, aL_sI, aL_sL, aL_sA, aL_sM, Bcut_0, Bcut_4, Bcut_12, Bcut_14, oi_m1]; try dsimp only
        refine ⟨rfl, fun h2 => ?_, fun h2 => ?_⟩
        · apply hB
          dsimp only [rgo, rfd, Bcut, Nat.beq, rwp, rst, lv_args, rlk, rs1, rs2, rdl, rky, rct, rcs, rcd, rno, rsw, Value.category, List.filter, List.take, List.drop, List.reverse, List.reverseAux, List.cons_append, List.nil_append, Option.toList, Int.toNat, Int.reduceToNat, if_pos, if_neg, reduceIte, ↓reduceIte, Nat.reduceAdd, Nat.reduceEqDiff, Nat.reduceBEq, beq_self_eq_true, Bool.not_true, Bool.not_false, Bool.and_true, Bool.and_false, Bool.true_and, Bool.false_and, gI_sI, gI_sL, gI_sA, gI_sM, gL_sI, gL_sL, gL_sA, gL_sM, aI_sI, aI_sL, aI_sA, aI_sM, aL_sI, aL_sL, aL_sA, aL_sM, Bcut_0, Bcut_4, Bcut_12, Bcut_14, oi_m1]; try dsimp only
          refine ⟨rfl, rfl, rfl, trivial, ?_⟩
          exact Or.inr ⟨⟨by lia, by lia⟩, rfl, rfl⟩
        · apply hB
          dsimp only [rgo, rfd, Bcut, Nat.beq, rwp, rst, lv_args, rlk, rs1, rs2, rdl, rky, rct, rcs, rcd, rno, rsw, Value.category, List.filter, List.take, List.drop, List.reverse, List.reverseAux, List.cons_append, List.nil_append, Option.toList, Int.toNat, Int.reduceToNat, if_pos, if_neg, reduceIte, ↓reduceIte, Nat.reduceAdd, Nat.reduceEqDiff, Nat.reduceBEq, beq_self_eq_true, Bool.not_true, Bool.not_false, Bool.and_true, Bool.and_false, Bool.true_and, Bool.false_and, gI_sI, gI_sL, gI_sA, gI_sM, gL_sI, gL_sL, gL_sA, gL_sM, aI_sI, aI_sL, aI_sA, aI_sM, aL_sI, aL_sL, aL_sA, aL_sM, Bcut_0, Bcut_4, Bcut_12, Bcut_14, oi_m1]; try dsimp only
          refine ⟨trivial, ?_⟩
          exact Or.inl ⟨by lia, rfl, rfl⟩
    next => exact hP.elim
def P_tokens : RP := fun As σ => match As with
  | [] => 0 ≤ (gI σ 2) ∧ (gI σ 2) ≤ 2590
  | _ => False
def Q_tokens : RQ := fun As σ w τ => match As with
  | [] => ∃ r : Int32, w = some (.int r) ∧ (0 ≤ r ∧ r ≤ 2589) ∧ τ = σ
  | _ => False
set_option maxRecDepth 100000 in
set_option maxHeartbeats 4000000 in
theorem b_tokens : Bod Btokens [] P_tokens Q_tokens := by
  · intro As σ hP G hB hW
    unfold P_tokens at hP
    split at hP
    next => 
      unfold Q_tokens at hB
      dsimp only at hB
      apply hB
      dsimp only [rgo, rfd, Btokens, Nat.beq, rwp, rst, lv_args, rlk, rs1, rs2, rdl, rky, rct, rcs, rcd, rno, rsw, Value.category, List.filter, List.take, List.drop, List.reverse, List.reverseAux, List.cons_append, List.nil_append, Option.toList, Int.toNat, Int.reduceToNat, if_pos, if_neg, reduceIte, ↓reduceIte, Nat.reduceAdd, Nat.reduceEqDiff, Nat.reduceBEq, beq_self_eq_true, Bool.not_true, Bool.not_false, Bool.and_true, Bool.and_false, Bool.true_and, Bool.false_and, gI_sI, gI_sL, gI_sA, gI_sM, gL_sI, gL_sL, gL_sA, gL_sM, aI_sI, aI_sL, aI_sA, aI_sM, aL_sI, aL_sL, aL_sA, aL_sM, Btokens_0, Btokens_7, Btokens_16, Btokens_17, oi_0, oi_1]; try dsimp only
      refine ⟨rfl, fun h1 => ?_, fun h1 => ?_⟩
      · apply hB
        dsimp only [rgo, rfd, Btokens, Nat.beq, rwp, rst, lv_args, rlk, rs1, rs2, rdl, rky, rct, rcs, rcd, rno, rsw, Value.category, List.filter, List.take, List.drop, List.reverse, List.reverseAux, List.cons_append, List.nil_append, Option.toList, Int.toNat, Int.reduceToNat, if_pos, if_neg, reduceIte, ↓reduceIte, Nat.reduceAdd, Nat.reduceEqDiff, Nat.reduceBEq, beq_self_eq_true, Bool.not_true, Bool.not_false, Bool.and_true, Bool.and_false, Bool.true_and, Bool.false_and, gI_sI, gI_sL, gI_sA, gI_sM, gL_sI, gL_sL, gL_sA, gL_sM, aI_sI, aI_sL, aI_sA, aI_sM, aL_sI, aL_sL, aL_sA, aL_sM, Btokens_0, Btokens_7, Btokens_16, Btokens_17, oi_0, oi_1]; try dsimp only
        apply hB
        dsimp only [rgo, rfd, Btokens, Nat.beq, rwp, rst, lv_args, rlk, rs1, rs2, rdl, rky, rct, rcs, rcd, rno, rsw, Value.category, List.filter, List.take, List.drop, List.reverse, List.reverseAux, List.cons_append, List.nil_append, Option.toList, Int.toNat, Int.reduceToNat, if_pos, if_neg, reduceIte, ↓reduceIte, Nat.reduceAdd, Nat.reduceEqDiff, Nat.reduceBEq, beq_self_eq_true, Bool.not_true, Bool.not_false, Bool.and_true, Bool.and_false, Bool.true_and, Bool.false_and, gI_sI, gI_sL, gI_sA, gI_sM, gL_sI, gL_sL, gL_sA, gL_sM, aI_sI, aI_sL, aI_sA, aI_sM, aL_sI, aL_sL, aL_sA, aL_sM, Btokens_0, Btokens_7, Btokens_16, Btokens_17, oi_0, oi_1]; try dsimp only
        refine ⟨trivial, ?_⟩
        exact ⟨_, rfl, ⟨by lia, by lia⟩, rfl⟩
      · apply hB
        dsimp only [rgo, rfd, Btokens, Nat.beq, rwp, rst, lv_args, rlk, rs1, rs2, rdl, rky, rct, rcs, rcd, rno, rsw, Value.category, List.filter, List.take, List.drop, List.reverse, List.reverseAux, List.cons_append, List.nil_append, Option.toList, Int.toNat, Int.reduceToNat, if_pos, if_neg, reduceIte, ↓reduceIte, Nat.reduceAdd, Nat.reduceEqDiff, Nat.reduceBEq, beq_self_eq_true, Bool.not_true, Bool.not_false, Bool.and_true, Bool.and_false, Bool.true_and, Bool.false_and, gI_sI, gI_sL, gI_sA, gI_sM, gL_sI, gL_sL, gL_sA, gL_sM, aI_sI, aI_sL, aI_sA, aI_sM, aL_sI, aL_sL, aL_sA, aL_sM, Btokens_0, Btokens_7, Btokens_16, Btokens_17, oi_0, oi_1]; try dsimp only
        refine ⟨rfl, ?_⟩
        apply hB
        dsimp only [rgo, rfd, Btokens, Nat.beq, rwp, rst, lv_args, rlk, rs1, rs2, rdl, rky, rct, rcs, rcd, rno, rsw, Value.category, List.filter, List.take, List.drop, List.reverse, List.reverseAux, List.cons_append, List.nil_append, Option.toList, Int.toNat, Int.reduceToNat, if_pos, if_neg, reduceIte, ↓reduceIte, Nat.reduceAdd, Nat.reduceEqDiff, Nat.reduceBEq, beq_self_eq_true, Bool.not_true, Bool.not_false, Bool.and_true, Bool.and_false, Bool.true_and, Bool.false_and, gI_sI, gI_sL, gI_sA, gI_sM, gL_sI, gL_sL, gL_sA, gL_sM, aI_sI, aI_sL, aI_sA, aI_sM, aL_sI, aL_sL, aL_sA, aL_sM, Btokens_0, Btokens_7, Btokens_16, Btokens_17, oi_0, oi_1]; try dsimp only
        refine ⟨trivial, ?_⟩
        exact ⟨_, rfl, ⟨by lia, by lia⟩, rfl⟩
    next => exact hP.elim
theorem m_tokens (l : Launch) : RMet l 1 127 P_tokens Q_tokens := by
  refine RMet.by Btokens [] rotokens okBtokens ct0 ?_ b_tokens
  · intro As σ hP
    unfold P_tokens at hP
    split at hP
    next => exact Nat.le_of_ble_eq_true rfl
    next => exact hP.elim
set_option maxRecDepth 100000 in
theorem e_tokens (l : Launch) : RMetE l 1 127 P_tokens Q_tokens := by
  refine RMetE.by Btokens [] rfl rfl rotokens okBtokens ctE0 ?_ b_tokens
  · intro As σ hP
    unfold P_tokens at hP
    split at hP
    next => exact Nat.le_of_ble_eq_true rfl
    next => exact hP.elim
def P_isToken : RP := fun As σ => match As with
  | [.int i] => 0 ≤ (gI σ 2) ∧ (gI σ 2) ≤ 2590
  | _ => False
def Q_isToken : RQ := fun As σ w τ => match As with
  | [.int i] => ∃ r : Int32, w = some (.int r) ∧ (r = 0 ∨ (r = 1 ∧ 0 ≤ i ∧ i ≤ 2589)) ∧ τ = σ
  | _ => False
set_option maxRecDepth 100000 in
set_option maxHeartbeats 4000000 in
theorem b_isToken : Bod BisToken [(127, P_tokens, Q_tokens)] P_isToken Q_isToken := by
  · intro As σ hP G hB hW
    unfold P_isToken at hP
    split at hP
    next i => 
      unfold Q_isToken at hB
      dsimp only at hB
      apply hB
      dsimp only [rgo, rfd, BisToken, Nat.beq, rwp, rst, lv_args, rlk, rs1, rs2, rdl, rky, rct, rcs, rcd, rno, rsw, Value.category, List.filter, List.take, List.drop, List.reverse, List.reverseAux, List.cons_append, List.nil_append, Option.toList, Int.toNat, Int.reduceToNat, if_pos, if_neg, reduceIte, ↓reduceIte, Nat.reduceAdd, Nat.reduceEqDiff, Nat.reduceBEq, beq_self_eq_true, Bool.not_true, Bool.not_false, Bool.and_true, Bool.and_false, Bool.true_and, Bool.false_and, gI_sI, gI_sL, gI_sA, gI_sM, gL_sI, gL_sL, gL_sA, gL_sM, aI_sI, aI_sL, aI_sA, aI_sM, aL_sI, aL_sL, aL_sA, aL_sM, BisToken_0, BisToken_4, BisToken_12, BisToken_16, BisToken_17, oi_0, oi_1, P_tokens]; try dsimp only
      refine ⟨fun h1 => ?_, fun h1 => ?_⟩
      · apply hB
        dsimp only [rgo, rfd, BisToken, Nat.beq, rwp, rst, lv_args, rlk, rs1, rs2, rdl, rky, rct, rcs, rcd, rno, rsw, Value.category, List.filter, List.take, List.drop, List.reverse, List.reverseAux, List.cons_append, List.nil_append, Option.toList, Int.toNat, Int.reduceToNat, if_pos, if_neg, reduceIte, ↓reduceIte, Nat.reduceAdd, Nat.reduceEqDiff, Nat.reduceBEq, beq_self_eq_true, Bool.not_true, Bool.not_false, Bool.and_true, Bool.and_false, Bool.true_and, Bool.false_and, gI_sI, gI_sL, gI_sA, gI_sM, gL_sI, gL_sL, gL_sA, gL_sM, aI_sI, aI_sL, aI_sA, aI_sM, aL_sI, aL_sL, aL_sA, aL_sM, BisToken_0, BisToken_4, BisToken_12, BisToken_16, BisToken_17, oi_0, oi_1, P_tokens]; try dsimp only
        apply hB
        dsimp only [rgo, rfd, BisToken, Nat.beq, rwp, rst, lv_args, rlk, rs1, rs2, rdl, rky, rct, rcs, rcd, rno, rsw, Value.category, List.filter, List.take, List.drop, List.reverse, List.reverseAux, List.cons_append, List.nil_append, Option.toList, Int.toNat, Int.reduceToNat, if_pos, if_neg, reduceIte, ↓reduceIte, Nat.reduceAdd, Nat.reduceEqDiff, Nat.reduceBEq, beq_self_eq_true, Bool.not_true, Bool.not_false, Bool.and_true, Bool.and_false, Bool.true_and, Bool.false_and, gI_sI, gI_sL, gI_sA, gI_sM, gL_sI, gL_sL, gL_sA, gL_sM, aI_sI, aI_sL, aI_sA, aI_sM, aL_sI, aL_sL, aL_sA, aL_sM, BisToken_0, BisToken_4, BisToken_12, BisToken_16, BisToken_17, oi_0, oi_1, P_tokens]; try dsimp only
        refine ⟨Or.inl rfl, ?_⟩
        exact ⟨_, rfl, Or.inl rfl, rfl⟩
      · apply hB
        dsimp only [rgo, rfd, BisToken, Nat.beq, rwp, rst, lv_args, rlk, rs1, rs2, rdl, rky, rct, rcs, rcd, rno, rsw, Value.category, List.filter, List.take, List.drop, List.reverse, List.reverseAux, List.cons_append, List.nil_append, Option.toList, Int.toNat, Int.reduceToNat, if_pos, if_neg, reduceIte, ↓reduceIte, Nat.reduceAdd, Nat.reduceEqDiff, Nat.reduceBEq, beq_self_eq_true, Bool.not_true, Bool.not_false, Bool.and_true, Bool.and_false, Bool.true_and, Bool.false_and, gI_sI, gI_sL, gI_sA, gI_sM, gL_sI, gL_sL, gL_sA, gL_sM, aI_sI, aI_sL, aI_sA, aI_sM, aL_sI, aL_sL, aL_sA, aL_sM, BisToken_0, BisToken_4, BisToken_12, BisToken_16, BisToken_17, oi_0, oi_1, P_tokens]; try dsimp only
        refine ⟨rfl, (by decide), (⟨hP.1, hP.2⟩), fun w2 τ2 hq2 => ?_⟩
        obtain ⟨r2, rfl, hr2, e2⟩ := hq2
        obtain rfl := e2
        dsimp only [Option.toList, List.cons_append, List.nil_append, Nat.beq, gI_sI, gI_sL, gI_sA, gI_sM, gL_sI, gL_sL, gL_sA, gL_sM, aI_sI, aI_sL, aI_sA, aI_sM, aL_sI, aL_sL, aL_sA, aL_sM]
        refine ⟨fun h3 => ?_, fun h3 => ?_⟩
        · apply hB
          dsimp only [rgo, rfd, BisToken, Nat.beq, rwp, rst, lv_args, rlk, rs1, rs2, rdl, rky, rct, rcs, rcd, rno, rsw, Value.category, List.filter, List.take, List.drop, List.reverse, List.reverseAux, List.cons_append, List.nil_append, Option.toList, Int.toNat, Int.reduceToNat, if_pos, if_neg, reduceIte, ↓reduceIte, Nat.reduceAdd, Nat.reduceEqDiff, Nat.reduceBEq, beq_self_eq_true, Bool.not_true, Bool.not_false, Bool.and_true, Bool.and_false, Bool.true_and, Bool.false_and, gI_sI, gI_sL, gI_sA, gI_sM, gL_sI, gL_sL, gL_sA, gL_sM, aI_sI, aI_sL, aI_sA, aI_sM, aL_sI, aL_sL, aL_sA, aL_sM, BisToken_0, BisToken_4, BisToken_12, BisToken_16, BisToken_17, oi_0, oi_1, P_tokens]; try dsimp only
          apply hB
          dsimp only [rgo, rfd, BisToken, Nat.beq, rwp, rst, lv_args, rlk, rs1, rs2, rdl, rky, rct, rcs, rcd, rno, rsw, Value.category, List.filter, List.take, List.drop, List.reverse, List.reverseAux, List.cons_append, List.nil_append, Option.toList, Int.toNat, Int.reduceToNat, if_pos, if_neg, reduceIte, ↓reduceIte, Nat.reduceAdd, Nat.reduceEqDiff, Nat.reduceBEq, beq_self_eq_true, Bool.not_true, Bool.not_false, Bool.and_true, Bool.and_false, Bool.true_and, Bool.false_and, gI_sI, gI_sL, gI_sA, gI_sM, gL_sI, gL_sL, gL_sA, gL_sM, aI_sI, aI_sL, aI_sA, aI_sM, aL_sI, aL_sL, aL_sA, aL_sM, BisToken_0, BisToken_4, BisToken_12, BisToken_16, BisToken_17, oi_0, oi_1, P_tokens]; try dsimp only
          refine ⟨Or.inl rfl, ?_⟩
          exact ⟨_, rfl, Or.inl rfl, rfl⟩
        · apply hB
          dsimp only [rgo, rfd, BisToken, Nat.beq, rwp, rst, lv_args, rlk, rs1, rs2, rdl, rky, rct, rcs, rcd, rno, rsw, Value.category, List.filter, List.take, List.drop, List.reverse, List.reverseAux, List.cons_append, List.nil_append, Option.toList, Int.toNat, Int.reduceToNat, if_pos, if_neg, reduceIte, ↓reduceIte, Nat.reduceAdd, Nat.reduceEqDiff, Nat.reduceBEq, beq_self_eq_true, Bool.not_true, Bool.not_false, Bool.and_true, Bool.and_false, Bool.true_and, Bool.false_and, gI_sI, gI_sL, gI_sA, gI_sM, gL_sI, gL_sL, gL_sA, gL_sM, aI_sI, aI_sL, aI_sA, aI_sM, aL_sI, aL_sL, aL_sA, aL_sM, BisToken_0, BisToken_4, BisToken_12, BisToken_16, BisToken_17, oi_0, oi_1, P_tokens]; try dsimp only
          apply hB
          dsimp only [rgo, rfd, BisToken, Nat.beq, rwp, rst, lv_args, rlk, rs1, rs2, rdl, rky, rct, rcs, rcd, rno, rsw, Value.category, List.filter, List.take, List.drop, List.reverse, List.reverseAux, List.cons_append, List.nil_append, Option.toList, Int.toNat, Int.reduceToNat, if_pos, if_neg, reduceIte, ↓reduceIte, Nat.reduceAdd, Nat.reduceEqDiff, Nat.reduceBEq, beq_self_eq_true, Bool.not_true, Bool.not_false, Bool.and_true, Bool.and_false, Bool.true_and, Bool.false_and, gI_sI, gI_sL, gI_sA, gI_sM, gL_sI, gL_sL, gL_sA, gL_sM, aI_sI, aI_sL, aI_sA, aI_sM, aL_sI, aL_sL, aL_sA, aL_sM, BisToken_0, BisToken_4, BisToken_12, BisToken_16, BisToken_17, oi_0, oi_1, P_tokens]; try dsimp only
          refine ⟨Or.inr rfl, ?_⟩
          exact ⟨_, rfl, Or.inr ⟨rfl, by lia, by lia⟩, rfl⟩
    next => exact hP.elim
theorem m_isToken (l : Launch) : RMet l 2 129 P_isToken Q_isToken := by
  refine RMet.by BisToken [(127, P_tokens, Q_tokens)] roisToken okBisToken (ctc (m_tokens l) (by decide) ct0) ?_ b_isToken
  · intro As σ hP
    unfold P_isToken at hP
    split at hP
    next => exact Nat.le_of_ble_eq_true rfl
    next => exact hP.elim
set_option maxRecDepth 100000 in
theorem e_isToken (l : Launch) : RMetE l 2 129 P_isToken Q_isToken := by
  refine RMetE.by BisToken [(127, P_tokens, Q_tokens)] rfl rfl roisToken okBisToken (ctEc (e_tokens l) (by decide) ctE0) ?_ b_isToken
  · intro As σ hP
    unfold P_isToken at hP
    split at hP
    next => exact Nat.le_of_ble_eq_true rfl
    next => exact hP.elim
def P_told2 : RP := fun As σ => match As with
  | [.int what] => 0 ≤ (gI σ 2) ∧ (gI σ 2) ≤ 2590
  | _ => False
def Q_told2 : RQ := fun As σ w τ => match As with
  | [.int what] => ∃ r : Int32, w = some (.int r) ∧ τ = σ
  | _ => False
set_option maxRecDepth 100000 in
set_option maxHeartbeats 4000000 in
theorem m_told2 (l : Launch) : RMet l 2 128 P_told2 Q_told2 := by
  refine RMet.by Btold_ [(127, P_tokens, Q_tokens)] rotold_ okBtold_ (ctc (m_tokens l) (by decide) ct0) ?_ ?_
  · intro As σ hP
    unfold P_told2 at hP
    split at hP
    next => exact Nat.le_of_ble_eq_true rfl
    next => exact hP.elim
  · intro As σ hP G hB hW
    unfold P_told2 at hP
    split at hP
    next what => 
      unfold Q_told2 at hB
      dsimp only at hB
      apply hB
      dsimp only [rgo, rfd, Btold_, Nat.beq, rwp, rst, lv_args, rlk, rs1, rs2, rdl, rky, rct, rcs, rcd, rno, rsw, Value.category, List.filter, List.take, List.drop, List.reverse, List.reverseAux, List.cons_append, List.nil_append, Option.toList, Int.toNat, Int.reduceToNat, if_pos, if_neg, reduceIte, ↓reduceIte, Nat.reduceAdd, Nat.reduceEqDiff, Nat.reduceBEq, beq_self_eq_true, Bool.not_true, Bool.not_false, Bool.and_true, Bool.and_false, Bool.true_and, Bool.false_and, gI_sI, gI_sL, gI_sA, gI_sM, gL_sI, gL_sL, gL_sA, gL_sM, aI_sI, aI_sL, aI_sA, aI_sM, aL_sI, aL_sL, aL_sA, aL_sM, Btold__0, Btold__4, Btold__11, Btold__16, Btold__23, Btold__28, Btold__35, Btold__40, Btold__47, Btold__48, oi_1, oi_2, oi_3, oi_m1, P_tokens]; try dsimp only
      refine ⟨fun h1 => ?_, fun h1 => ?_⟩
      · apply hB
        dsimp only [rgo, rfd, Btold_, Nat.beq, rwp, rst, lv_args, rlk, rs1, rs2, rdl, rky, rct, rcs, rcd, rno, rsw, Value.category, List.filter, List.take, List.drop, List.reverse, List.reverseAux, List.cons_append, List.nil_append, Option.toList, Int.toNat, Int.reduceToNat, if_pos, if_neg, reduceIte, ↓reduceIte, Nat.reduceAdd, Nat.reduceEqDiff, Nat.reduceBEq, beq_self_eq_true, Bool.not_true, Bool.not_false, Bool.and_true, Bool.and_false, Bool.true_and, Bool.false_and, gI_sI, gI_sL, gI_sA, gI_sM, gL_sI, gL_sL, gL_sA, gL_sM, aI_sI, aI_sL, aI_sA, aI_sM, aL_sI, aL_sL, aL_sA, aL_sM, Btold__0, Btold__4, Btold__11, Btold__16, Btold__23, Btold__28, Btold__35, Btold__40, Btold__47, Btold__48, oi_1, oi_2, oi_3, oi_m1, P_tokens]; try dsimp only
        refine ⟨fun h2 => ?_, fun h2 => ?_⟩
        · apply hB
          dsimp only [rgo, rfd, Btold_, Nat.beq, rwp, rst, lv_args, rlk, rs1, rs2, rdl, rky, rct, rcs, rcd, rno, rsw, Value.category, List.filter, List.take, List.drop, List.reverse, List.reverseAux, List.cons_append, List.nil_append, Option.toList, Int.toNat, Int.reduceToNat, if_pos, if_neg, reduceIte, ↓reduceIte, Nat.reduceAdd, Nat.reduceEqDiff, Nat.reduceBEq, beq_self_eq_true, Bool.not_true, Bool.not_false, Bool.and_true, Bool.and_false, Bool.true_and, Bool.false_and, gI_sI, gI_sL, gI_sA, gI_sM, gL_sI, gL_sL, gL_sA, gL_sM, aI_sI, aI_sL, aI_sA, aI_sM, aL_sI, aL_sL, aL_sA, aL_sM, Btold__0, Btold__4, Btold__11, Btold__16, Btold__23, Btold__28, Btold__35, Btold__40, Btold__47, Btold__48, oi_1, oi_2, oi_3, oi_m1, P_tokens]; try dsimp only
          refine ⟨fun h3 => ?_, fun h3 => ?_⟩
          · apply hB
            dsimp only [rgo, rfd, Btold_, Nat.beq, rwp, rst, lv_args, rlk, rs1, rs2, rdl, rky, rct, rcs, rcd, rno, rsw, Value.category, List.filter, List.take, List.drop, List.reverse, List.reverseAux, List.cons_append, List.nil_append, Option.toList, Int.toNat, Int.reduceToNat, if_pos, if_neg, reduceIte, ↓reduceIte, Nat.reduceAdd, Nat.reduceEqDiff, Nat.reduceBEq, beq_self_eq_true, Bool.not_true, Bool.not_false, Bool.and_true, Bool.and_false, Bool.true_and, Bool.false_and, gI_sI, gI_sL, gI_sA, gI_sM, gL_sI, gL_sL, gL_sA, gL_sM, aI_sI, aI_sL, aI_sA, aI_sM, aL_sI, aL_sL, aL_sA, aL_sM, Btold__0, Btold__4, Btold__11, Btold__16, Btold__23, Btold__28, Btold__35, Btold__40, Btold__47, Btold__48, oi_1, oi_2, oi_3, oi_m1, P_tokens]; try dsimp only
            refine ⟨fun h4 => ?_, fun h4 => ?_⟩
            · apply hB
              dsimp only [rgo, rfd, Btold_, Nat.beq, rwp, rst, lv_args, rlk, rs1, rs2, rdl, rky, rct, rcs, rcd, rno, rsw, Value.category, List.filter, List.take, List.drop, List.reverse, List.reverseAux, List.cons_append, List.nil_append, Option.toList, Int.toNat, Int.reduceToNat, if_pos, if_neg, reduceIte, ↓reduceIte, Nat.reduceAdd, Nat.reduceEqDiff, Nat.reduceBEq, beq_self_eq_true, Bool.not_true, Bool.not_false, Bool.and_true, Bool.and_false, Bool.true_and, Bool.false_and, gI_sI, gI_sL, gI_sA, gI_sM, gL_sI, gL_sL, gL_sA, gL_sM, aI_sI, aI_sL, aI_sA, aI_sM, aL_sI, aL_sL, aL_sA, aL_sM, Btold__0, Btold__4, Btold__11, Btold__16, Btold__23, Btold__28, Btold__35, Btold__40, Btold__47, Btold__48, oi_1, oi_2, oi_3, oi_m1, P_tokens]; try dsimp only
              apply hB
              dsimp only [rgo, rfd, Btold_, Nat.beq, rwp, rst, lv_args, rlk, rs1, rs2, rdl, rky, rct, rcs, rcd, rno, rsw, Value.category, List.filter, List.take, List.drop, List.reverse, List.reverseAux, List.cons_append, List.nil_append, Option.toList, Int.toNat, Int.reduceToNat, if_pos, if_neg, reduceIte, ↓reduceIte, Nat.reduceAdd, Nat.reduceEqDiff, Nat.reduceBEq, beq_self_eq_true, Bool.not_true, Bool.not_false, Bool.and_true, Bool.and_false, Bool.true_and, Bool.false_and, gI_sI, gI_sL, gI_sA, gI_sM, gL_sI, gL_sL, gL_sA, gL_sM, aI_sI, aI_sL, aI_sA, aI_sM, aL_sI, aL_sL, aL_sA, aL_sM, Btold__0, Btold__4, Btold__11, Btold__16, Btold__23, Btold__28, Btold__35, Btold__40, Btold__47, Btold__48, oi_1, oi_2, oi_3, oi_m1, P_tokens]; try dsimp only
              refine ⟨trivial, ?_⟩
              exact ⟨_, rfl, rfl⟩
            · apply hB
              dsimp only [rgo, rfd, Btold_, Nat.beq, rwp, rst, lv_args, rlk, rs1, rs2, rdl, rky, rct, rcs, rcd, rno, rsw, Value.category, List.filter, List.take, List.drop, List.reverse, List.reverseAux, List.cons_append, List.nil_append, Option.toList, Int.toNat, Int.reduceToNat, if_pos, if_neg, reduceIte, ↓reduceIte, Nat.reduceAdd, Nat.reduceEqDiff, Nat.reduceBEq, beq_self_eq_true, Bool.not_true, Bool.not_false, Bool.and_true, Bool.and_false, Bool.true_and, Bool.false_and, gI_sI, gI_sL, gI_sA, gI_sM, gL_sI, gL_sL, gL_sA, gL_sM, aI_sI, aI_sL, aI_sA, aI_sM, aL_sI, aL_sL, aL_sA, aL_sM, Btold__0, Btold__4, Btold__11, Btold__16, Btold__23, Btold__28, Btold__35, Btold__40, Btold__47, Btold__48, oi_1, oi_2, oi_3, oi_m1, P_tokens]; try dsimp only
              refine ⟨rfl, ?_⟩
              apply hB
              dsimp only [rgo, rfd, Btold_, Nat.beq, rwp, rst, lv_args, rlk, rs1, rs2, rdl, rky, rct, rcs, rcd, rno, rsw, Value.category, List.filter, List.take, List.drop, List.reverse, List.reverseAux, List.cons_append, List.nil_append, Option.toList, Int.toNat, Int.reduceToNat, if_pos, if_neg, reduceIte, ↓reduceIte, Nat.reduceAdd, Nat.reduceEqDiff, Nat.reduceBEq, beq_self_eq_true, Bool.not_true, Bool.not_false, Bool.and_true, Bool.and_false, Bool.true_and, Bool.false_and, gI_sI, gI_sL, gI_sA, gI_sM, gL_sI, gL_sL, gL_sA, gL_sM, aI_sI, aI_sL, aI_sA, aI_sM, aL_sI, aL_sL, aL_sA, aL_sM, Btold__0, Btold__4, Btold__11, Btold__16, Btold__23, Btold__28, Btold__35, Btold__40, Btold__47, Btold__48, oi_1, oi_2, oi_3, oi_m1, P_tokens]; try dsimp only
              refine ⟨trivial, ?_⟩
              exact ⟨_, rfl, rfl⟩
          · apply hB
            dsimp only [rgo, rfd, Btold_, Nat.beq, rwp, rst, lv_args, rlk, rs1, rs2, rdl, rky, rct, rcs, rcd, rno, rsw, Value.category, List.filter, List.take, List.drop, List.reverse, List.reverseAux, List.cons_append, List.nil_append, Option.toList, Int.toNat, Int.reduceToNat, if_pos, if_neg, reduceIte, ↓reduceIte, Nat.reduceAdd, Nat.reduceEqDiff, Nat.reduceBEq, beq_self_eq_true, Bool.not_true, Bool.not_false, Bool.and_true, Bool.and_false, Bool.true_and, Bool.false_and, gI_sI, gI_sL, gI_sA, gI_sM, gL_sI, gL_sL, gL_sA, gL_sM, aI_sI, aI_sL, aI_sA, aI_sM, aL_sI, aL_sL, aL_sA, aL_sM, Btold__0, Btold__4, Btold__11, Btold__16, Btold__23, Btold__28, Btold__35, Btold__40, Btold__47, Btold__48, oi_1, oi_2, oi_3, oi_m1, P_tokens]; try dsimp only
            refine ⟨rfl, ?_⟩
            apply hB
            dsimp only [rgo, rfd, Btold_, Nat.beq, rwp, rst, lv_args, rlk, rs1, rs2, rdl, rky, rct, rcs, rcd, rno, rsw, Value.category, List.filter, List.take, List.drop, List.reverse, List.reverseAux, List.cons_append, List.nil_append, Option.toList, Int.toNat, Int.reduceToNat, if_pos, if_neg, reduceIte, ↓reduceIte, Nat.reduceAdd, Nat.reduceEqDiff, Nat.reduceBEq, beq_self_eq_true, Bool.not_true, Bool.not_false, Bool.and_true, Bool.and_false, Bool.true_and, Bool.false_and, gI_sI, gI_sL, gI_sA, gI_sM, gL_sI, gL_sL, gL_sA, gL_sM, aI_sI, aI_sL, aI_sA, aI_sM, aL_sI, aL_sL, aL_sA, aL_sM, Btold__0, Btold__4, Btold__11, Btold__16, Btold__23, Btold__28, Btold__35, Btold__40, Btold__47, Btold__48, oi_1, oi_2, oi_3, oi_m1, P_tokens]; try dsimp only
            refine ⟨trivial, ?_⟩
            exact ⟨_, rfl, rfl⟩
        · apply hB
          dsimp only [rgo, rfd, Btold_, Nat.beq, rwp, rst, lv_args, rlk, rs1, rs2, rdl, rky, rct, rcs, rcd, rno, rsw, Value.category, List.filter, List.take, List.drop, List.reverse, List.reverseAux, List.cons_append, List.nil_append, Option.toList, Int.toNat, Int.reduceToNat, if_pos, if_neg, reduceIte, ↓reduceIte, Nat.reduceAdd, Nat.reduceEqDiff, Nat.reduceBEq, beq_self_eq_true, Bool.not_true, Bool.not_false, Bool.and_true, Bool.and_false, Bool.true_and, Bool.false_and, gI_sI, gI_sL, gI_sA, gI_sM, gL_sI, gL_sL, gL_sA, gL_sM, aI_sI, aI_sL, aI_sA, aI_sM, aL_sI, aL_sL, aL_sA, aL_sM, Btold__0, Btold__4, Btold__11, Btold__16, Btold__23, Btold__28, Btold__35, Btold__40, Btold__47, Btold__48, oi_1, oi_2, oi_3, oi_m1, P_tokens]; try dsimp only
          refine ⟨rfl, ?_⟩
          apply hB
          dsimp only [rgo, rfd, Btold_, Nat.beq, rwp, rst, lv_args, rlk, rs1, rs2, rdl, rky, rct, rcs, rcd, rno, rsw, Value.category, List.filter, List.take, List.drop, List.reverse, List.reverseAux, List.cons_append, List.nil_append, Option.toList, Int.toNat, Int.reduceToNat, if_pos, if_neg, reduceIte, ↓reduceIte, Nat.reduceAdd, Nat.reduceEqDiff, Nat.reduceBEq, beq_self_eq_true, Bool.not_true, Bool.not_false, Bool.and_true, Bool.and_false, Bool.true_and, Bool.false_and, gI_sI, gI_sL, gI_sA, gI_sM, gL_sI, gL_sL, gL_sA, gL_sM, aI_sI, aI_sL, aI_sA, aI_sM, aL_sI, aL_sL, aL_sA, aL_sM, Btold__0, Btold__4, Btold__11, Btold__16, Btold__23, Btold__28, Btold__35, Btold__40, Btold__47, Btold__48, oi_1, oi_2, oi_3, oi_m1, P_tokens]; try dsimp only
          refine ⟨trivial, ?_⟩
          exact ⟨_, rfl, rfl⟩
      · apply hB
        dsimp only [rgo, rfd, Btold_, Nat.beq, rwp, rst, lv_args, rlk, rs1, rs2, rdl, rky, rct, rcs, rcd, rno, rsw, Value.category, List.filter, List.take, List.drop, List.reverse, List.reverseAux, List.cons_append, List.nil_append, Option.toList, Int.toNat, Int.reduceToNat, if_pos, if_neg, reduceIte, ↓reduceIte, Nat.reduceAdd, Nat.reduceEqDiff, Nat.reduceBEq, beq_self_eq_true, Bool.not_true, Bool.not_false, Bool.and_true, Bool.and_false, Bool.true_and, Bool.false_and, gI_sI, gI_sL, gI_sA, gI_sM, gL_sI, gL_sL, gL_sA, gL_sM, aI_sI, aI_sL, aI_sA, aI_sM, aL_sI, aL_sL, aL_sA, aL_sM, Btold__0, Btold__4, Btold__11, Btold__16, Btold__23, Btold__28, Btold__35, Btold__40, Btold__47, Btold__48, oi_1, oi_2, oi_3, oi_m1, P_tokens]; try dsimp only
        refine ⟨rfl, (by decide), (⟨hP.1, hP.2⟩), fun w5 τ5 hq5 => ?_⟩
        obtain ⟨r5, rfl, hr5, e5⟩ := hq5
        obtain rfl := e5
        dsimp only [Option.toList, List.cons_append, List.nil_append, Nat.beq, gI_sI, gI_sL, gI_sA, gI_sM, gL_sI, gL_sL, gL_sA, gL_sM, aI_sI, aI_sL, aI_sA, aI_sM, aL_sI, aL_sL, aL_sA, aL_sM]
        apply hB
        dsimp only [rgo, rfd, Btold_, Nat.beq, rwp, rst, lv_args, rlk, rs1, rs2, rdl, rky, rct, rcs, rcd, rno, rsw, Value.category, List.filter, List.take, List.drop, List.reverse, List.reverseAux, List.cons_append, List.nil_append, Option.toList, Int.toNat, Int.reduceToNat, if_pos, if_neg, reduceIte, ↓reduceIte, Nat.reduceAdd, Nat.reduceEqDiff, Nat.reduceBEq, beq_self_eq_true, Bool.not_true, Bool.not_false, Bool.and_true, Bool.and_false, Bool.true_and, Bool.false_and, gI_sI, gI_sL, gI_sA, gI_sM, gL_sI, gL_sL, gL_sA, gL_sM, aI_sI, aI_sL, aI_sA, aI_sM, aL_sI, aL_sL, aL_sA, aL_sM, Btold__0, Btold__4, Btold__11, Btold__16, Btold__23, Btold__28, Btold__35, Btold__40, Btold__47, Btold__48, oi_1, oi_2, oi_3, oi_m1, P_tokens]; try dsimp only
        refine ⟨trivial, ?_⟩
        exact ⟨_, rfl, rfl⟩
    next => exact hP.elim
def P_token : RP := fun As σ => match As with
  | [.int i, .int what] => 0 ≤ (gI σ 2) ∧ (gI σ 2) ≤ 2590
  | _ => False
def Q_token : RQ := fun As σ w τ => match As with
  | [.int i, .int what] => ∃ r : Int32, w = some (.int r) ∧ τ = σ
  | _ => False
set_option maxRecDepth 100000 in
set_option maxHeartbeats 4000000 in
theorem m_token (l : Launch) : RMet l 3 130 P_token Q_token := by
  refine RMet.by Btoken [(129, P_isToken, Q_isToken)] rotoken okBtoken (ctc (m_isToken l) (by decide) ct0) ?_ ?_
  · intro As σ hP
    unfold P_token at hP
    split at hP
    next => exact Nat.le_of_ble_eq_true rfl
    next => exact hP.elim
  · intro As σ hP G hB hW
    unfold P_token at hP
    split at hP
    next i what => 
      unfold Q_token at hB
      dsimp only at hB
      apply hB
      dsimp only [rgo, rfd, Btoken, Nat.beq, rwp, rst, lv_args, rlk, rs1, rs2, rdl, rky, rct, rcs, rcd, rno, rsw, Value.category, List.filter, List.take, List.drop, List.reverse, List.reverseAux, List.cons_append, List.nil_append, Option.toList, Int.toNat, Int.reduceToNat, if_pos, if_neg, reduceIte, ↓reduceIte, Nat.reduceAdd, Nat.reduceEqDiff, Nat.reduceBEq, beq_self_eq_true, Bool.not_true, Bool.not_false, Bool.and_true, Bool.and_false, Bool.true_and, Bool.false_and, gI_sI, gI_sL, gI_sA, gI_sM, gL_sI, gL_sL, gL_sA, gL_sM, aI_sI, aI_sL, aI_sA, aI_sM, aL_sI, aL_sL, aL_sA, aL_sM, Btoken_0, Btoken_8, Btoken_12, Btoken_17, Btoken_19, Btoken_23, Btoken_32, Btoken_37, Btoken_46, Btoken_52, oi_1, oi_2, oi_m1, P_isToken]; try dsimp only
      refine ⟨rfl, (by decide), (⟨hP.1, hP.2⟩), fun w1 τ1 hq1 => ?_⟩
      obtain ⟨r1, rfl, hr1, e1⟩ := hq1
      obtain rfl := e1
      rcases hr1 with rfl | ⟨rfl, hi1⟩
      · dsimp only [Option.toList, List.cons_append, List.nil_append, Nat.beq, gI_sI, gI_sL, gI_sA, gI_sM, gL_sI, gL_sL, gL_sA, gL_sM, aI_sI, aI_sL, aI_sA, aI_sM, aL_sI, aL_sL, aL_sA, aL_sM]
        refine ⟨fun h2 => ?_, fun h2 => absurd h2 (by decide)⟩
        clear h2
        apply hB
        dsimp only [rgo, rfd, Btoken, Nat.beq, rwp, rst, lv_args, rlk, rs1, rs2, rdl, rky, rct, rcs, rcd, rno, rsw, Value.category, List.filter, List.take, List.drop, List.reverse, List.reverseAux, List.cons_append, List.nil_append, Option.toList, Int.toNat, Int.reduceToNat, if_pos, if_neg, reduceIte, ↓reduceIte, Nat.reduceAdd, Nat.reduceEqDiff, Nat.reduceBEq, beq_self_eq_true, Bool.not_true, Bool.not_false, Bool.and_true, Bool.and_false, Bool.true_and, Bool.false_and, gI_sI, gI_sL, gI_sA, gI_sM, gL_sI, gL_sL, gL_sA, gL_sM, aI_sI, aI_sL, aI_sA, aI_sM, aL_sI, aL_sL, aL_sA, aL_sM, Btoken_0, Btoken_8, Btoken_12, Btoken_17, Btoken_19, Btoken_23, Btoken_32, Btoken_37, Btoken_46, Btoken_52, oi_1, oi_2, oi_m1, P_isToken]; try dsimp only
        refine ⟨trivial, ?_⟩
        exact ⟨_, rfl, rfl⟩
      · dsimp only [Option.toList, List.cons_append, List.nil_append, Nat.beq, gI_sI, gI_sL, gI_sA, gI_sM, gL_sI, gL_sL, gL_sA, gL_sM, aI_sI, aI_sL, aI_sA, aI_sM, aL_sI, aL_sL, aL_sA, aL_sM]
        refine ⟨fun h3 => absurd h3 (by decide), fun h3 => ?_⟩
        clear h3
        apply hB
        dsimp only [rgo, rfd, Btoken, Nat.beq, rwp, rst, lv_args, rlk, rs1, rs2, rdl, rky, rct, rcs, rcd, rno, rsw, Value.category, List.filter, List.take, List.drop, List.reverse, List.reverseAux, List.cons_append, List.nil_append, Option.toList, Int.toNat, Int.reduceToNat, if_pos, if_neg, reduceIte, ↓reduceIte, Nat.reduceAdd, Nat.reduceEqDiff, Nat.reduceBEq, beq_self_eq_true, Bool.not_true, Bool.not_false, Bool.and_true, Bool.and_false, Bool.true_and, Bool.false_and, gI_sI, gI_sL, gI_sA, gI_sM, gL_sI, gL_sL, gL_sA, gL_sM, aI_sI, aI_sL, aI_sA, aI_sM, aL_sI, aL_sL, aL_sA, aL_sM, Btoken_0, Btoken_8, Btoken_12, Btoken_17, Btoken_19, Btoken_23, Btoken_32, Btoken_37, Btoken_46, Btoken_52, oi_1, oi_2, oi_m1, P_isToken]; try dsimp only
        refine ⟨fun h4 => ?_, fun h4 => ?_⟩
        · apply hB
          dsimp only [rgo, rfd, Btoken, Nat.beq, rwp, rst, lv_args, rlk, rs1, rs2, rdl, rky, rct, rcs, rcd, rno, rsw, Value.category, List.filter, List.take, List.drop, List.reverse, List.reverseAux, List.cons_append, List.nil_append, Option.toList, Int.toNat, Int.reduceToNat, if_pos, if_neg, reduceIte, ↓reduceIte, Nat.reduceAdd, Nat.reduceEqDiff, Nat.reduceBEq, beq_self_eq_true, Bool.not_true, Bool.not_false, Bool.and_true, Bool.and_false, Bool.true_and, Bool.false_and, gI_sI, gI_sL, gI_sA, gI_sM, gL_sI, gL_sL, gL_sA, gL_sM, aI_sI, aI_sL, aI_sA, aI_sM, aL_sI, aL_sL, aL_sA, aL_sM, Btoken_0, Btoken_8, Btoken_12, Btoken_17, Btoken_19, Btoken_23, Btoken_32, Btoken_37, Btoken_46, Btoken_52, oi_1, oi_2, oi_m1, P_isToken]; try dsimp only
          refine ⟨trivial, ?_⟩
          exact ⟨_, rfl, rfl⟩
        · apply hB
          dsimp only [rgo, rfd, Btoken, Nat.beq, rwp, rst, lv_args, rlk, rs1, rs2, rdl, rky, rct, rcs, rcd, rno, rsw, Value.category, List.filter, List.take, List.drop, List.reverse, List.reverseAux, List.cons_append, List.nil_append, Option.toList, Int.toNat, Int.reduceToNat, if_pos, if_neg, reduceIte, ↓reduceIte, Nat.reduceAdd, Nat.reduceEqDiff, Nat.reduceBEq, beq_self_eq_true, Bool.not_true, Bool.not_false, Bool.and_true, Bool.and_false, Bool.true_and, Bool.false_and, gI_sI, gI_sL, gI_sA, gI_sM, gL_sI, gL_sL, gL_sA, gL_sM, aI_sI, aI_sL, aI_sA, aI_sM, aL_sI, aL_sL, aL_sA, aL_sM, Btoken_0, Btoken_8, Btoken_12, Btoken_17, Btoken_19, Btoken_23, Btoken_32, Btoken_37, Btoken_46, Btoken_52, oi_1, oi_2, oi_m1, P_isToken]; try dsimp only
          refine ⟨fun h5 => ?_, fun h5 => ?_⟩
          · apply hB
            dsimp only [rgo, rfd, Btoken, Nat.beq, rwp, rst, lv_args, rlk, rs1, rs2, rdl, rky, rct, rcs, rcd, rno, rsw, Value.category, List.filter, List.take, List.drop, List.reverse, List.reverseAux, List.cons_append, List.nil_append, Option.toList, Int.toNat, Int.reduceToNat, if_pos, if_neg, reduceIte, ↓reduceIte, Nat.reduceAdd, Nat.reduceEqDiff, Nat.reduceBEq, beq_self_eq_true, Bool.not_true, Bool.not_false, Bool.and_true, Bool.and_false, Bool.true_and, Bool.false_and, gI_sI, gI_sL, gI_sA, gI_sM, gL_sI, gL_sL, gL_sA, gL_sM, aI_sI, aI_sL, aI_sA, aI_sM, aL_sI, aL_sL, aL_sA, aL_sM, Btoken_0, Btoken_8, Btoken_12, Btoken_17, Btoken_19, Btoken_23, Btoken_32, Btoken_37, Btoken_46, Btoken_52, oi_1, oi_2, oi_m1, P_isToken]; try dsimp only
            refine ⟨fun h6 => ?_, fun h6 => ?_⟩
            · apply hB
              dsimp only [rgo, rfd, Btoken, Nat.beq, rwp, rst, lv_args, rlk, rs1, rs2, rdl, rky, rct, rcs, rcd, rno, rsw, Value.category, List.filter, List.take, List.drop, List.reverse, List.reverseAux, List.cons_append, List.nil_append, Option.toList, Int.toNat, Int.reduceToNat, if_pos, if_neg, reduceIte, ↓reduceIte, Nat.reduceAdd, Nat.reduceEqDiff, Nat.reduceBEq, beq_self_eq_true, Bool.not_true, Bool.not_false, Bool.and_true, Bool.and_false, Bool.true_and, Bool.false_and, gI_sI, gI_sL, gI_sA, gI_sM, gL_sI, gL_sL, gL_sA, gL_sM, aI_sI, aI_sL, aI_sA, aI_sM, aL_sI, aL_sL, aL_sA, aL_sM, Btoken_0, Btoken_8, Btoken_12, Btoken_17, Btoken_19, Btoken_23, Btoken_32, Btoken_37, Btoken_46, Btoken_52, oi_1, oi_2, oi_m1, P_isToken]; try dsimp only
              refine ⟨fun h7 => ?_, fun h7 => ?_⟩
              · apply hB
                dsimp only [rgo, rfd, Btoken, Nat.beq, rwp, rst, lv_args, rlk, rs1, rs2, rdl, rky, rct, rcs, rcd, rno, rsw, Value.category, List.filter, List.take, List.drop, List.reverse, List.reverseAux, List.cons_append, List.nil_append, Option.toList, Int.toNat, Int.reduceToNat, if_pos, if_neg, reduceIte, ↓reduceIte, Nat.reduceAdd, Nat.reduceEqDiff, Nat.reduceBEq, beq_self_eq_true, Bool.not_true, Bool.not_false, Bool.and_true, Bool.and_false, Bool.true_and, Bool.false_and, gI_sI, gI_sL, gI_sA, gI_sM, gL_sI, gL_sL, gL_sA, gL_sM, aI_sI, aI_sL, aI_sA, aI_sM, aL_sI, aL_sL, aL_sA, aL_sM, Btoken_0, Btoken_8, Btoken_12, Btoken_17, Btoken_19, Btoken_23, Btoken_32, Btoken_37, Btoken_46, Btoken_52, oi_1, oi_2, oi_m1, P_isToken]; try dsimp only
                refine ⟨rfl, rfl, (in_3 (by lia) (by lia)), ?_⟩
                apply hB
                dsimp only [rgo, rfd, Btoken, Nat.beq, rwp, rst, lv_args, rlk, rs1, rs2, rdl, rky, rct, rcs, rcd, rno, rsw, Value.category, List.filter, List.take, List.drop, List.reverse, List.reverseAux, List.cons_append, List.nil_append, Option.toList, Int.toNat, Int.reduceToNat, if_pos, if_neg, reduceIte, ↓reduceIte, Nat.reduceAdd, Nat.reduceEqDiff, Nat.reduceBEq, beq_self_eq_true, Bool.not_true, Bool.not_false, Bool.and_true, Bool.and_false, Bool.true_and, Bool.false_and, gI_sI, gI_sL, gI_sA, gI_sM, gL_sI, gL_sL, gL_sA, gL_sM, aI_sI, aI_sL, aI_sA, aI_sM, aL_sI, aL_sL, aL_sA, aL_sM, Btoken_0, Btoken_8, Btoken_12, Btoken_17, Btoken_19, Btoken_23, Btoken_32, Btoken_37, Btoken_46, Btoken_52, oi_1, oi_2, oi_m1, P_isToken]; try dsimp only
                refine ⟨trivial, ?_⟩
                exact ⟨_, rfl, rfl⟩
              · apply hB
                dsimp only [rgo, rfd, Btoken, Nat.beq, rwp, rst, lv_args, rlk, rs1, rs2, rdl, rky, rct, rcs, rcd, rno, rsw, Value.category, List.filter, List.take, List.drop, List.reverse, List.reverseAux, List.cons_append, List.nil_append, Option.toList, Int.toNat, Int.reduceToNat, if_pos, if_neg, reduceIte, ↓reduceIte, Nat.reduceAdd, Nat.reduceEqDiff, Nat.reduceBEq, beq_self_eq_true, Bool.not_true, Bool.not_false, Bool.and_true, Bool.and_false, Bool.true_and, Bool.false_and, gI_sI, gI_sL, gI_sA, gI_sM, gL_sI, gL_sL, gL_sA, gL_sM, aI_sI, aI_sL, aI_sA, aI_sM, aL_sI, aL_sL, aL_sA, aL_sM, Btoken_0, Btoken_8, Btoken_12, Btoken_17, Btoken_19, Btoken_23, Btoken_32, Btoken_37, Btoken_46, Btoken_52, oi_1, oi_2, oi_m1, P_isToken]; try dsimp only
                refine ⟨rfl, rfl, (in_5 (by lia) (by lia)), ?_⟩
                apply hB
                dsimp only [rgo, rfd, Btoken, Nat.beq, rwp, rst, lv_args, rlk, rs1, rs2, rdl, rky, rct, rcs, rcd, rno, rsw, Value.category, List.filter, List.take, List.drop, List.reverse, List.reverseAux, List.cons_append, List.nil_append, Option.toList, Int.toNat, Int.reduceToNat, if_pos, if_neg, reduceIte, ↓reduceIte, Nat.reduceAdd, Nat.reduceEqDiff, Nat.reduceBEq, beq_self_eq_true, Bool.not_true, Bool.not_false, Bool.and_true, Bool.and_false, Bool.true_and, Bool.false_and, gI_sI, gI_sL, gI_sA, gI_sM, gL_sI, gL_sL, gL_sA, gL_sM, aI_sI, aI_sL, aI_sA, aI_sM, aL_sI, aL_sL, aL_sA, aL_sM, Btoken_0, Btoken_8, Btoken_12, Btoken_17, Btoken_19, Btoken_23, Btoken_32, Btoken_37, Btoken_46, Btoken_52, oi_1, oi_2, oi_m1, P_isToken]; try dsimp only
                refine ⟨trivial, ?_⟩
                exact ⟨_, rfl, rfl⟩
            · apply hB
              dsimp only [rgo, rfd, Btoken, Nat.beq, rwp, rst, lv_args, rlk, rs1, rs2, rdl, rky, rct, rcs, rcd, rno, rsw, Value.category, List.filter, List.take, List.drop, List.reverse, List.reverseAux, List.cons_append, List.nil_append, Option.toList, Int.toNat, Int.reduceToNat, if_pos, if_neg, reduceIte, ↓reduceIte, Nat.reduceAdd, Nat.reduceEqDiff, Nat.reduceBEq, beq_self_eq_true, Bool.not_true, Bool.not_false, Bool.and_true, Bool.and_false, Bool.true_and, Bool.false_and, gI_sI, gI_sL, gI_sA, gI_sM, gL_sI, gL_sL, gL_sA, gL_sM, aI_sI, aI_sL, aI_sA, aI_sM, aL_sI, aL_sL, aL_sA, aL_sM, Btoken_0, Btoken_8, Btoken_12, Btoken_17, Btoken_19, Btoken_23, Btoken_32, Btoken_37, Btoken_46, Btoken_52, oi_1, oi_2, oi_m1, P_isToken]; try dsimp only
              refine ⟨rfl, rfl, (in_4 (by lia) (by lia)), ?_⟩
              apply hB
              dsimp only [rgo, rfd, Btoken, Nat.beq, rwp, rst, lv_args, rlk, rs1, rs2, rdl, rky, rct, rcs, rcd, rno, rsw, Value.category, List.filter, List.take, List.drop, List.reverse, List.reverseAux, List.cons_append, List.nil_append, Option.toList, Int.toNat, Int.reduceToNat, if_pos, if_neg, reduceIte, ↓reduceIte, Nat.reduceAdd, Nat.reduceEqDiff, Nat.reduceBEq, beq_self_eq_true, Bool.not_true, Bool.not_false, Bool.and_true, Bool.and_false, Bool.true_and, Bool.false_and, gI_sI, gI_sL, gI_sA, gI_sM, gL_sI, gL_sL, gL_sA, gL_sM, aI_sI, aI_sL, aI_sA, aI_sM, aL_sI, aL_sL, aL_sA, aL_sM, Btoken_0, Btoken_8, Btoken_12, Btoken_17, Btoken_19, Btoken_23, Btoken_32, Btoken_37, Btoken_46, Btoken_52, oi_1, oi_2, oi_m1, P_isToken]; try dsimp only
              refine ⟨trivial, ?_⟩
              exact ⟨_, rfl, rfl⟩
          · apply hB
            dsimp only [rgo, rfd, Btoken, Nat.beq, rwp, rst, lv_args, rlk, rs1, rs2, rdl, rky, rct, rcs, rcd, rno, rsw, Value.category, List.filter, List.take, List.drop, List.reverse, List.reverseAux, List.cons_append, List.nil_append, Option.toList, Int.toNat, Int.reduceToNat, if_pos, if_neg, reduceIte, ↓reduceIte, Nat.reduceAdd, Nat.reduceEqDiff, Nat.reduceBEq, beq_self_eq_true, Bool.not_true, Bool.not_false, Bool.and_true, Bool.and_false, Bool.true_and, Bool.false_and, gI_sI, gI_sL, gI_sA, gI_sM, gL_sI, gL_sL, gL_sA, gL_sM, aI_sI, aI_sL, aI_sA, aI_sM, aL_sI, aL_sL, aL_sA, aL_sM, Btoken_0, Btoken_8, Btoken_12, Btoken_17, Btoken_19, Btoken_23, Btoken_32, Btoken_37, Btoken_46, Btoken_52, oi_1, oi_2, oi_m1, P_isToken]; try dsimp only
            refine ⟨trivial, ?_⟩
            exact ⟨_, rfl, rfl⟩
    next => exact hP.elim
def P_variable2 : RP := fun As σ => match As with
  | [.int k, .int what] => ∃ s k j, PI (sI σ 62 0) [] s k j
  | _ => False
def Q_variable2 : RQ := fun As σ w τ => match As with
  | [.int k, .int what] => ∃ r : Int32, w = some (.int r) ∧ τ = σ
  | _ => False
set_option maxRecDepth 100000 in
set_option maxHeartbeats 4000000 in
theorem m_variable2 (l : Launch) : RMet l 1 132 P_variable2 Q_variable2 := by
  refine RMet.by Bvariable_ [] rovariable_ okBvariable_ ct0 ?_ ?_
  · intro As σ hP
    unfold P_variable2 at hP
    split at hP
    next => exact Nat.le_of_ble_eq_true rfl
    next => exact hP.elim
  · intro As σ hP G hB hW
    unfold P_variable2 at hP
    split at hP
    next k what => 
      unfold Q_variable2 at hB
      dsimp only at hB
      obtain ⟨s, kk, j, hPI⟩ := hP
      have n42 : 0 ≤ gI σ 42 ∧ gI σ 42 ≤ 60 := hPI.nums.2.2.2.2.2.2.1
      apply hB
      dsimp only [rgo, rfd, Bvariable_, Nat.beq, rwp, rst, lv_args, rlk, rs1, rs2, rdl, rky, rct, rcs, rcd, rno, rsw, Value.category, List.filter, List.take, List.drop, List.reverse, List.reverseAux, List.cons_append, List.nil_append, Option.toList, Int.toNat, Int.reduceToNat, if_pos, if_neg, reduceIte, ↓reduceIte, Nat.reduceAdd, Nat.reduceEqDiff, Nat.reduceBEq, beq_self_eq_true, Bool.not_true, Bool.not_false, Bool.and_true, Bool.and_false, Bool.true_and, Bool.false_and, gI_sI, gI_sL, gI_sA, gI_sM, gL_sI, gL_sL, gL_sA, gL_sM, aI_sI, aI_sL, aI_sA, aI_sM, aL_sI, aL_sL, aL_sA, aL_sM, Bvariable__0, Bvariable__4, Bvariable__12, Bvariable__14, Bvariable__18, Bvariable__27, Bvariable__32, Bvariable__41, Bvariable__46, Bvariable__55, Bvariable__59, Bvariable__63, Bvariable__68, Bvariable__77, Bvariable__78, oi_0, oi_1, oi_2, oi_3, oi_m1]; try dsimp only
      refine ⟨fun h1 => ?_, fun h1 => ?_⟩
      · apply hB
        dsimp only [rgo, rfd, Bvariable_, Nat.beq, rwp, rst, lv_args, rlk, rs1, rs2, rdl, rky, rct, rcs, rcd, rno, rsw, Value.category, List.filter, List.take, List.drop, List.reverse, List.reverseAux, List.cons_append, List.nil_append, Option.toList, Int.toNat, Int.reduceToNat, if_pos, if_neg, reduceIte, ↓reduceIte, Nat.reduceAdd, Nat.reduceEqDiff, Nat.reduceBEq, beq_self_eq_true, Bool.not_true, Bool.not_false, Bool.and_true, Bool.and_false, Bool.true_and, Bool.false_and, gI_sI, gI_sL, gI_sA, gI_sM, gL_sI, gL_sL, gL_sA, gL_sM, aI_sI, aI_sL, aI_sA, aI_sM, aL_sI, aL_sL, aL_sA, aL_sM, Bvariable__0, Bvariable__4, Bvariable__12, Bvariable__14, Bvariable__18, Bvariable__27, Bvariable__32, Bvariable__41, Bvariable__46, Bvariable__55, Bvariable__59, Bvariable__63, Bvariable__68, Bvariable__77, Bvariable__78, oi_0, oi_1, oi_2, oi_3, oi_m1]; try dsimp only
        refine ⟨trivial, ?_⟩
        exact ⟨_, rfl, rfl⟩
      · apply hB
        dsimp only [rgo, rfd, Bvariable_, Nat.beq, rwp, rst, lv_args, rlk, rs1, rs2, rdl, rky, rct, rcs, rcd, rno, rsw, Value.category, List.filter, List.take, List.drop, List.reverse, List.reverseAux, List.cons_append, List.nil_append, Option.toList, Int.toNat, Int.reduceToNat, if_pos, if_neg, reduceIte, ↓reduceIte, Nat.reduceAdd, Nat.reduceEqDiff, Nat.reduceBEq, beq_self_eq_true, Bool.not_true, Bool.not_false, Bool.and_true, Bool.and_false, Bool.true_and, Bool.false_and, gI_sI, gI_sL, gI_sA, gI_sM, gL_sI, gL_sL, gL_sA, gL_sM, aI_sI, aI_sL, aI_sA, aI_sM, aL_sI, aL_sL, aL_sA, aL_sM, Bvariable__0, Bvariable__4, Bvariable__12, Bvariable__14, Bvariable__18, Bvariable__27, Bvariable__32, Bvariable__41, Bvariable__46, Bvariable__55, Bvariable__59, Bvariable__63, Bvariable__68, Bvariable__77, Bvariable__78, oi_0, oi_1, oi_2, oi_3, oi_m1]; try dsimp only
        refine ⟨rfl, fun h2 => ?_, fun h2 => ?_⟩
        · apply hB
          dsimp only [rgo, rfd, Bvariable_, Nat.beq, rwp, rst, lv_args, rlk, rs1, rs2, rdl, rky, rct, rcs, rcd, rno, rsw, Value.category, List.filter, List.take, List.drop, List.reverse, List.reverseAux, List.cons_append, List.nil_append, Option.toList, Int.toNat, Int.reduceToNat, if_pos, if_neg, reduceIte, ↓reduceIte, Nat.reduceAdd, Nat.reduceEqDiff, Nat.reduceBEq, beq_self_eq_true, Bool.not_true, Bool.not_false, Bool.and_true, Bool.and_false, Bool.true_and, Bool.false_and, gI_sI, gI_sL, gI_sA, gI_sM, gL_sI, gL_sL, gL_sA, gL_sM, aI_sI, aI_sL, aI_sA, aI_sM, aL_sI, aL_sL, aL_sA, aL_sM, Bvariable__0, Bvariable__4, Bvariable__12, Bvariable__14, Bvariable__18, Bvariable__27, Bvariable__32, Bvariable__41, Bvariable__46, Bvariable__55, Bvariable__59, Bvariable__63, Bvariable__68, Bvariable__77, Bvariable__78, oi_0, oi_1, oi_2, oi_3, oi_m1]; try dsimp only
          refine ⟨fun h3 => ?_, fun h3 => ?_⟩
          · apply hB
            dsimp only [rgo, rfd, Bvariable_, Nat.beq, rwp, rst, lv_args, rlk, rs1, rs2, rdl, rky, rct, rcs, rcd, rno, rsw, Value.category, List.filter, List.take, List.drop, List.reverse, List.reverseAux, List.cons_append, List.nil_append, Option.toList, Int.toNat, Int.reduceToNat, if_pos, if_neg, reduceIte, ↓reduceIte, Nat.reduceAdd, Nat.reduceEqDiff, Nat.reduceBEq, beq_self_eq_true, Bool.not_true, Bool.not_false, Bool.and_true, Bool.and_false, Bool.true_and, Bool.false_and, gI_sI, gI_sL, gI_sA, gI_sM, gL_sI, gL_sL, gL_sA, gL_sM, aI_sI, aI_sL, aI_sA, aI_sM, aL_sI, aL_sL, aL_sA, aL_sM, Bvariable__0, Bvariable__4, Bvariable__12, Bvariable__14, Bvariable__18, Bvariable__27, Bvariable__32, Bvariable__41, Bvariable__46, Bvariable__55, Bvariable__59, Bvariable__63, Bvariable__68, Bvariable__77, Bvariable__78, oi_0, oi_1, oi_2, oi_3, oi_m1]; try dsimp only
            refine ⟨fun h4 => ?_, fun h4 => ?_⟩
            · apply hB
              dsimp only [rgo, rfd, Bvariable_, Nat.beq, rwp, rst, lv_args, rlk, rs1, rs2, rdl, rky, rct, rcs, rcd, rno, rsw, Value.category, List.filter, List.take, List.drop, List.reverse, List.reverseAux, List.cons_append, List.nil_append, Option.toList, Int.toNat, Int.reduceToNat, if_pos, if_neg, reduceIte, ↓reduceIte, Nat.reduceAdd, Nat.reduceEqDiff, Nat.reduceBEq, beq_self_eq_true, Bool.not_true, Bool.not_false, Bool.and_true, Bool.and_false, Bool.true_and, Bool.false_and, gI_sI, gI_sL, gI_sA, gI_sM, gL_sI, gL_sL, gL_sA, gL_sM, aI_sI, aI_sL, aI_sA, aI_sM, aL_sI, aL_sL, aL_sA, aL_sM, Bvariable__0, Bvariable__4, Bvariable__12, Bvariable__14, Bvariable__18, Bvariable__27, Bvariable__32, Bvariable__41, Bvariable__46, Bvariable__55, Bvariable__59, Bvariable__63, Bvariable__68, Bvariable__77, Bvariable__78, oi_0, oi_1, oi_2, oi_3, oi_m1]; try dsimp only
              refine ⟨fun h5 => ?_, fun h5 => ?_⟩
              · apply hB
                dsimp only [rgo, rfd, Bvariable_, Nat.beq, rwp, rst, lv_args, rlk, rs1, rs2, rdl, rky, rct, rcs, rcd, rno, rsw, Value.category, List.filter, List.take, List.drop, List.reverse, List.reverseAux, List.cons_append, List.nil_append, Option.toList, Int.toNat, Int.reduceToNat, if_pos, if_neg, reduceIte, ↓reduceIte, Nat.reduceAdd, Nat.reduceEqDiff, Nat.reduceBEq, beq_self_eq_true, Bool.not_true, Bool.not_false, Bool.and_true, Bool.and_false, Bool.true_and, Bool.false_and, gI_sI, gI_sL, gI_sA, gI_sM, gL_sI, gL_sL, gL_sA, gL_sM, aI_sI, aI_sL, aI_sA, aI_sM, aL_sI, aL_sL, aL_sA, aL_sM, Bvariable__0, Bvariable__4, Bvariable__12, Bvariable__14, Bvariable__18, Bvariable__27, Bvariable__32, Bvariable__41, Bvariable__46, Bvariable__55, Bvariable__59, Bvariable__63, Bvariable__68, Bvariable__77, Bvariable__78, oi_0, oi_1, oi_2, oi_3, oi_m1]; try dsimp only
                refine ⟨fun h6 => ?_, fun h6 => ?_⟩
                · apply hB
                  dsimp only [rgo, rfd, Bvariable_, Nat.beq, rwp, rst, lv_args, rlk, rs1, rs2, rdl, rky, rct, rcs, rcd, rno, rsw, Value.category, List.filter, List.take, List.drop, List.reverse, List.reverseAux, List.cons_append, List.nil_append, Option.toList, Int.toNat, Int.reduceToNat, if_pos, if_neg, reduceIte, ↓reduceIte, Nat.reduceAdd, Nat.reduceEqDiff, Nat.reduceBEq, beq_self_eq_true, Bool.not_true, Bool.not_false, Bool.and_true, Bool.and_false, Bool.true_and, Bool.false_and, gI_sI, gI_sL, gI_sA, gI_sM, gL_sI, gL_sL, gL_sA, gL_sM, aI_sI, aI_sL, aI_sA, aI_sM, aL_sI, aL_sL, aL_sA, aL_sM, Bvariable__0, Bvariable__4, Bvariable__12, Bvariable__14, Bvariable__18, Bvariable__27, Bvariable__32, Bvariable__41, Bvariable__46, Bvariable__55, Bvariable__59, Bvariable__63, Bvariable__68, Bvariable__77, Bvariable__78, oi_0, oi_1, oi_2, oi_3, oi_m1]; try dsimp only
                  apply hB
                  dsimp only [rgo, rfd, Bvariable_, Nat.beq, rwp, rst, lv_args, rlk, rs1, rs2, rdl, rky, rct, rcs, rcd, rno, rsw, Value.category, List.filter, List.take, List.drop, List.reverse, List.reverseAux, List.cons_append, List.nil_append, Option.toList, Int.toNat, Int.reduceToNat, if_pos, if_neg, reduceIte, ↓reduceIte, Nat.reduceAdd, Nat.reduceEqDiff, Nat.reduceBEq, beq_self_eq_true, Bool.not_true, Bool.not_false, Bool.and_true, Bool.and_false, Bool.true_and, Bool.false_and, gI_sI, gI_sL, gI_sA, gI_sM, gL_sI, gL_sL, gL_sA, gL_sM, aI_sI, aI_sL, aI_sA, aI_sM, aL_sI, aL_sL, aL_sA, aL_sM, Bvariable__0, Bvariable__4, Bvariable__12, Bvariable__14, Bvariable__18, Bvariable__27, Bvariable__32, Bvariable__41, Bvariable__46, Bvariable__55, Bvariable__59, Bvariable__63, Bvariable__68, Bvariable__77, Bvariable__78, oi_0, oi_1, oi_2, oi_3, oi_m1]; try dsimp only
                  refine ⟨trivial, ?_⟩
                  exact ⟨_, rfl, rfl⟩
                · apply hB
                  dsimp only [rgo, rfd, Bvariable_, Nat.beq, rwp, rst, lv_args, rlk, rs1, rs2, rdl, rky, rct, rcs, rcd, rno, rsw, Value.category, List.filter, List.take, List.drop, List.reverse, List.reverseAux, List.cons_append, List.nil_append, Option.toList, Int.toNat, Int.reduceToNat, if_pos, if_neg, reduceIte, ↓reduceIte, Nat.reduceAdd, Nat.reduceEqDiff, Nat.reduceBEq, beq_self_eq_true, Bool.not_true, Bool.not_false, Bool.and_true, Bool.and_false, Bool.true_and, Bool.false_and, gI_sI, gI_sL, gI_sA, gI_sM, gL_sI, gL_sL, gL_sA, gL_sM, aI_sI, aI_sL, aI_sA, aI_sM, aL_sI, aL_sL, aL_sA, aL_sM, Bvariable__0, Bvariable__4, Bvariable__12, Bvariable__14, Bvariable__18, Bvariable__27, Bvariable__32, Bvariable__41, Bvariable__46, Bvariable__55, Bvariable__59, Bvariable__63, Bvariable__68, Bvariable__77, Bvariable__78, oi_0, oi_1, oi_2, oi_3, oi_m1]; try dsimp only
                  refine ⟨rfl, rfl, (in_46 (by lia) (by lia)), ?_⟩
                  apply hB
                  dsimp only [rgo, rfd, Bvariable_, Nat.beq, rwp, rst, lv_args, rlk, rs1, rs2, rdl, rky, rct, rcs, rcd, rno, rsw, Value.category, List.filter, List.take, List.drop, List.reverse, List.reverseAux, List.cons_append, List.nil_append, Option.toList, Int.toNat, Int.reduceToNat, if_pos, if_neg, reduceIte, ↓reduceIte, Nat.reduceAdd, Nat.reduceEqDiff, Nat.reduceBEq, beq_self_eq_true, Bool.not_true, Bool.not_false, Bool.and_true, Bool.and_false, Bool.true_and, Bool.false_and, gI_sI, gI_sL, gI_sA, gI_sM, gL_sI, gL_sL, gL_sA, gL_sM, aI_sI, aI_sL, aI_sA, aI_sM, aL_sI, aL_sL, aL_sA, aL_sM, Bvariable__0, Bvariable__4, Bvariable__12, Bvariable__14, Bvariable__18, Bvariable__27, Bvariable__32, Bvariable__41, Bvariable__46, Bvariable__55, Bvariable__59, Bvariable__63, Bvariable__68, Bvariable__77, Bvariable__78, oi_0, oi_1, oi_2, oi_3, oi_m1]; try dsimp only
                  refine ⟨trivial, ?_⟩
                  exact ⟨_, rfl, rfl⟩
              · apply hB
                dsimp only [rgo, rfd, Bvariable_, Nat.beq, rwp, rst, lv_args, rlk, rs1, rs2, rdl, rky, rct, rcs, rcd, rno, rsw, Value.category, List.filter, List.take, List.drop, List.reverse, List.reverseAux, List.cons_append, List.nil_append, Option.toList, Int.toNat, Int.reduceToNat, if_pos, if_neg, reduceIte, ↓reduceIte, Nat.reduceAdd, Nat.reduceEqDiff, Nat.reduceBEq, beq_self_eq_true, Bool.not_true, Bool.not_false, Bool.and_true, Bool.and_false, Bool.true_and, Bool.false_and, gI_sI, gI_sL, gI_sA, gI_sM, gL_sI, gL_sL, gL_sA, gL_sM, aI_sI, aI_sL, aI_sA, aI_sM, aL_sI, aL_sL, aL_sA, aL_sM, Bvariable__0, Bvariable__4, Bvariable__12, Bvariable__14, Bvariable__18, Bvariable__27, Bvariable__32, Bvariable__41, Bvariable__46, Bvariable__55, Bvariable__59, Bvariable__63, Bvariable__68, Bvariable__77, Bvariable__78, oi_0, oi_1, oi_2, oi_3, oi_m1]; try dsimp only
                refine ⟨rfl, rfl, (in_45 (by lia) (by lia)), fun h7 => ?_, fun h7 => ?_⟩
                · apply hB
                  dsimp only [rgo, rfd, Bvariable_, Nat.beq, rwp, rst, lv_args, rlk, rs1, rs2, rdl, rky, rct, rcs, rcd, rno, rsw, Value.category, List.filter, List.take, List.drop, List.reverse, List.reverseAux, List.cons_append, List.nil_append, Option.toList, Int.toNat, Int.reduceToNat, if_pos, if_neg, reduceIte, ↓reduceIte, Nat.reduceAdd, Nat.reduceEqDiff, Nat.reduceBEq, beq_self_eq_true, Bool.not_true, Bool.not_false, Bool.and_true, Bool.and_false, Bool.true_and, Bool.false_and, gI_sI, gI_sL, gI_sA, gI_sM, gL_sI, gL_sL, gL_sA, gL_sM, aI_sI, aI_sL, aI_sA, aI_sM, aL_sI, aL_sL, aL_sA, aL_sM, Bvariable__0, Bvariable__4, Bvariable__12, Bvariable__14, Bvariable__18, Bvariable__27, Bvariable__32, Bvariable__41, Bvariable__46, Bvariable__55, Bvariable__59, Bvariable__63, Bvariable__68, Bvariable__77, Bvariable__78, oi_0, oi_1, oi_2, oi_3, oi_m1]; try dsimp only
                  apply hB
                  dsimp only [rgo, rfd, Bvariable_, Nat.beq, rwp, rst, lv_args, rlk, rs1, rs2, rdl, rky, rct, rcs, rcd, rno, rsw, Value.category, List.filter, List.take, List.drop, List.reverse, List.reverseAux, List.cons_append, List.nil_append, Option.toList, Int.toNat, Int.reduceToNat, if_pos, if_neg, reduceIte, ↓reduceIte, Nat.reduceAdd, Nat.reduceEqDiff, Nat.reduceBEq, beq_self_eq_true, Bool.not_true, Bool.not_false, Bool.and_true, Bool.and_false, Bool.true_and, Bool.false_and, gI_sI, gI_sL, gI_sA, gI_sM, gL_sI, gL_sL, gL_sA, gL_sM, aI_sI, aI_sL, aI_sA, aI_sM, aL_sI, aL_sL, aL_sA, aL_sM, Bvariable__0, Bvariable__4, Bvariable__12, Bvariable__14, Bvariable__18, Bvariable__27, Bvariable__32, Bvariable__41, Bvariable__46, Bvariable__55, Bvariable__59, Bvariable__63, Bvariable__68, Bvariable__77, Bvariable__78, oi_0, oi_1, oi_2, oi_3, oi_m1]; try dsimp only
                  refine ⟨trivial, ?_⟩
                  exact ⟨_, rfl, rfl⟩
                · apply hB
                  dsimp only [rgo, rfd, Bvariable_, Nat.beq, rwp, rst, lv_args, rlk, rs1, rs2, rdl, rky, rct, rcs, rcd, rno, rsw, Value.category, List.filter, List.take, List.drop, List.reverse, List.reverseAux, List.cons_append, List.nil_append, Option.toList, Int.toNat, Int.reduceToNat, if_pos, if_neg, reduceIte, ↓reduceIte, Nat.reduceAdd, Nat.reduceEqDiff, Nat.reduceBEq, beq_self_eq_true, Bool.not_true, Bool.not_false, Bool.and_true, Bool.and_false, Bool.true_and, Bool.false_and, gI_sI, gI_sL, gI_sA, gI_sM, gL_sI, gL_sL, gL_sA, gL_sM, aI_sI, aI_sL, aI_sA, aI_sM, aL_sI, aL_sL, aL_sA, aL_sM, Bvariable__0, Bvariable__4, Bvariable__12, Bvariable__14, Bvariable__18, Bvariable__27, Bvariable__32, Bvariable__41, Bvariable__46, Bvariable__55, Bvariable__59, Bvariable__63, Bvariable__68, Bvariable__77, Bvariable__78, oi_0, oi_1, oi_2, oi_3, oi_m1]; try dsimp only
                  apply hB
                  dsimp only [rgo, rfd, Bvariable_, Nat.beq, rwp, rst, lv_args, rlk, rs1, rs2, rdl, rky, rct, rcs, rcd, rno, rsw, Value.category, List.filter, List.take, List.drop, List.reverse, List.reverseAux, List.cons_append, List.nil_append, Option.toList, Int.toNat, Int.reduceToNat, if_pos, if_neg, reduceIte, ↓reduceIte, Nat.reduceAdd, Nat.reduceEqDiff, Nat.reduceBEq, beq_self_eq_true, Bool.not_true, Bool.not_false, Bool.and_true, Bool.and_false, Bool.true_and, Bool.false_and, gI_sI, gI_sL, gI_sA, gI_sM, gL_sI, gL_sL, gL_sA, gL_sM, aI_sI, aI_sL, aI_sA, aI_sM, aL_sI, aL_sL, aL_sA, aL_sM, Bvariable__0, Bvariable__4, Bvariable__12, Bvariable__14, Bvariable__18, Bvariable__27, Bvariable__32, Bvariable__41, Bvariable__46, Bvariable__55, Bvariable__59, Bvariable__63, Bvariable__68, Bvariable__77, Bvariable__78, oi_0, oi_1, oi_2, oi_3, oi_m1]; try dsimp only
                  refine ⟨trivial, ?_⟩
                  exact ⟨_, rfl, rfl⟩
            · apply hB
              dsimp only [rgo, rfd, Bvariable_, Nat.beq, rwp, rst, lv_args, rlk, rs1, rs2, rdl, rky, rct, rcs, rcd, rno, rsw, Value.category, List.filter, List.take, List.drop, List.reverse, List.reverseAux, List.cons_append, List.nil_append, Option.toList, Int.toNat, Int.reduceToNat, if_pos, if_neg, reduceIte, ↓reduceIte, Nat.reduceAdd, Nat.reduceEqDiff, Nat.reduceBEq, beq_self_eq_true, Bool.not_true, Bool.not_false, Bool.and_true, Bool.and_false, Bool.true_and, Bool.false_and, gI_sI, gI_sL, gI_sA, gI_sM, gL_sI, gL_sL, gL_sA, gL_sM, aI_sI, aI_sL, aI_sA, aI_sM, aL_sI, aL_sL, aL_sA, aL_sM, Bvariable__0, Bvariable__4, Bvariable__12, Bvariable__14, Bvariable__18, Bvariable__27, Bvariable__32, Bvariable__41, Bvariable__46, Bvariable__55, Bvariable__59, Bvariable__63, Bvariable__68, Bvariable__77, Bvariable__78, oi_0, oi_1, oi_2, oi_3, oi_m1]; try dsimp only
              refine ⟨rfl, rfl, (in_44 (by lia) (by lia)), ?_⟩
              apply hB
              dsimp only [rgo, rfd, Bvariable_, Nat.beq, rwp, rst, lv_args, rlk, rs1, rs2, rdl, rky, rct, rcs, rcd, rno, rsw, Value.category, List.filter, List.take, List.drop, List.reverse, List.reverseAux, List.cons_append, List.nil_append, Option.toList, Int.toNat, Int.reduceToNat, if_pos, if_neg, reduceIte, ↓reduceIte, Nat.reduceAdd, Nat.reduceEqDiff, Nat.reduceBEq, beq_self_eq_true, Bool.not_true, Bool.not_false, Bool.and_true, Bool.and_false, Bool.true_and, Bool.false_and, gI_sI, gI_sL, gI_sA, gI_sM, gL_sI, gL_sL, gL_sA, gL_sM, aI_sI, aI_sL, aI_sA, aI_sM, aL_sI, aL_sL, aL_sA, aL_sM, Bvariable__0, Bvariable__4, Bvariable__12, Bvariable__14, Bvariable__18, Bvariable__27, Bvariable__32, Bvariable__41, Bvariable__46, Bvariable__55, Bvariable__59, Bvariable__63, Bvariable__68, Bvariable__77, Bvariable__78, oi_0, oi_1, oi_2, oi_3, oi_m1]; try dsimp only
              refine ⟨trivial, ?_⟩
              exact ⟨_, rfl, rfl⟩
          · apply hB
            dsimp only [rgo, rfd, Bvariable_, Nat.beq, rwp, rst, lv_args, rlk, rs1, rs2, rdl, rky, rct, rcs, rcd, rno, rsw, Value.category, List.filter, List.take, List.drop, List.reverse, List.reverseAux, List.cons_append, List.nil_append, Option.toList, Int.toNat, Int.reduceToNat, if_pos, if_neg, reduceIte, ↓reduceIte, Nat.reduceAdd, Nat.reduceEqDiff, Nat.reduceBEq, beq_self_eq_true, Bool.not_true, Bool.not_false, Bool.and_true, Bool.and_false, Bool.true_and, Bool.false_and, gI_sI, gI_sL, gI_sA, gI_sM, gL_sI, gL_sL, gL_sA, gL_sM, aI_sI, aI_sL, aI_sA, aI_sM, aL_sI, aL_sL, aL_sA, aL_sM, Bvariable__0, Bvariable__4, Bvariable__12, Bvariable__14, Bvariable__18, Bvariable__27, Bvariable__32, Bvariable__41, Bvariable__46, Bvariable__55, Bvariable__59, Bvariable__63, Bvariable__68, Bvariable__77, Bvariable__78, oi_0, oi_1, oi_2, oi_3, oi_m1]; try dsimp only
            refine ⟨rfl, rfl, (in_43 (by lia) (by lia)), ?_⟩
            apply hB
            dsimp only [rgo, rfd, Bvariable_, Nat.beq, rwp, rst, lv_args, rlk, rs1, rs2, rdl, rky, rct, rcs, rcd, rno, rsw, Value.category, List.filter, List.take, List.drop, List.reverse, List.reverseAux, List.cons_append, List.nil_append, Option.toList, Int.toNat, Int.reduceToNat, if_pos, if_neg, reduceIte, ↓reduceIte, Nat.reduceAdd, Nat.reduceEqDiff, Nat.reduceBEq, beq_self_eq_true, Bool.not_true, Bool.not_false, Bool.and_true, Bool.and_false, Bool.true_and, Bool.false_and, gI_sI, gI_sL, gI_sA, gI_sM, gL_sI, gL_sL, gL_sA, gL_sM, aI_sI, aI_sL, aI_sA, aI_sM, aL_sI, aL_sL, aL_sA, aL_sM, Bvariable__0, Bvariable__4, Bvariable__12, Bvariable__14, Bvariable__18, Bvariable__27, Bvariable__32, Bvariable__41, Bvariable__46, Bvariable__55, Bvariable__59, Bvariable__63, Bvariable__68, Bvariable__77, Bvariable__78, oi_0, oi_1, oi_2, oi_3, oi_m1]; try dsimp only
            refine ⟨trivial, ?_⟩
            exact ⟨_, rfl, rfl⟩
        · apply hB
          dsimp only [rgo, rfd, Bvariable_, Nat.beq, rwp, rst, lv_args, rlk, rs1, rs2, rdl, rky, rct, rcs, rcd, rno, rsw, Value.category, List.filter, List.take, List.drop, List.reverse, List.reverseAux, List.cons_append, List.nil_append, Option.toList, Int.toNat, Int.reduceToNat, if_pos, if_neg, reduceIte, ↓reduceIte, Nat.reduceAdd, Nat.reduceEqDiff, Nat.reduceBEq, beq_self_eq_true, Bool.not_true, Bool.not_false, Bool.and_true, Bool.and_false, Bool.true_and, Bool.false_and, gI_sI, gI_sL, gI_sA, gI_sM, gL_sI, gL_sL, gL_sA, gL_sM, aI_sI, aI_sL, aI_sA, aI_sM, aL_sI, aL_sL, aL_sA, aL_sM, Bvariable__0, Bvariable__4, Bvariable__12, Bvariable__14, Bvariable__18, Bvariable__27, Bvariable__32, Bvariable__41, Bvariable__46, Bvariable__55, Bvariable__59, Bvariable__63, Bvariable__68, Bvariable__77, Bvariable__78, oi_0, oi_1, oi_2, oi_3, oi_m1]; try dsimp only
          refine ⟨trivial, ?_⟩
          exact ⟨_, rfl, rfl⟩
    next => exact hP.elim
def P_method2 : RP := fun As σ => match As with
  | [.int k, .int what] => ∃ s k j, PI (sI σ 62 0) [] s k j
  | _ => False
def Q_method2 : RQ := fun As σ w τ => match As with
  | [.int k, .int what] => ∃ r : Int32, w = some (.int r) ∧ τ = σ
  | _ => False
set_option maxRecDepth 100000 in
set_option maxHeartbeats 4000000 in
theorem m_method2 (l : Launch) : RMet l 1 131 P_method2 Q_method2 := by
  refine RMet.by Bmethod_ [] romethod_ okBmethod_ ct0 ?_ ?_
  · intro As σ hP
    unfold P_method2 at hP
    split at hP
    next => exact Nat.le_of_ble_eq_true rfl
    next => exact hP.elim
  · intro As σ hP G hB hW
    unfold P_method2 at hP
    split at hP
    next k what => 
      unfold Q_method2 at hB
      dsimp only at hB
      obtain ⟨s, kk, j, hPI⟩ := hP
      have n42 : 0 ≤ gI σ 42 ∧ gI σ 42 ≤ 60 := hPI.nums.2.2.2.2.2.2.1
      have n36 : 0 ≤ gI σ 36 ∧ gI σ 36 ≤ 10 := hPI.nums.2.2.2.2.2.2.2
      have hmt : 0 ≤ k → k < gI σ 36 → (0 ≤ aI σ 39 k.toNatClampNeg ∧ aI σ 39 k.toNatClampNeg ≤ 6) ∧ (0 ≤ aI σ 40 k.toNatClampNeg ∧ aI σ 40 k.toNatClampNeg + aI σ 39 k.toNatClampNeg ≤ gI σ 42 ∧ aI σ 40 k.toNatClampNeg ≤ gI σ 42) := fun h0 h1 => by
        have q := hPI.2.2.2.2.2.2.2.2.1.2 (nT k) (nT_lt h0 h1)
        exact ⟨q.2.1, q.2.2.1⟩
      apply hB
      dsimp only [rgo, rfd, Bmethod_, Nat.beq, rwp, rst, lv_args, rlk, rs1, rs2, rdl, rky, rct, rcs, rcd, rno, rsw, Value.category, List.filter, List.take, List.drop, List.reverse, List.reverseAux, List.cons_append, List.nil_append, Option.toList, Int.toNat, Int.reduceToNat, if_pos, if_neg, reduceIte, ↓reduceIte, Nat.reduceAdd, Nat.reduceEqDiff, Nat.reduceBEq, beq_self_eq_true, Bool.not_true, Bool.not_false, Bool.and_true, Bool.and_false, Bool.true_and, Bool.false_and, gI_sI, gI_sL, gI_sA, gI_sM, gL_sI, gL_sL, gL_sA, gL_sM, aI_sI, aI_sL, aI_sA, aI_sM, aL_sI, aL_sL, aL_sA, aL_sM, Bmethod__0, Bmethod__4, Bmethod__12, Bmethod__14, Bmethod__20, Bmethod__33, Bmethod__50, Bmethod__54, Bmethod__63, Bmethod__68, Bmethod__77, Bmethod__82, Bmethod__91, Bmethod__92, oi_1, oi_10, oi_2, oi_m1]; try dsimp only
      refine ⟨fun h1 => ?_, fun h1 => ?_⟩
      · apply hB
        dsimp only [rgo, rfd, Bmethod_, Nat.beq, rwp, rst, lv_args, rlk, rs1, rs2, rdl, rky, rct, rcs, rcd, rno, rsw, Value.category, List.filter, List.take, List.drop, List.reverse, List.reverseAux, List.cons_append, List.nil_append, Option.toList, Int.toNat, Int.reduceToNat, if_pos, if_neg, reduceIte, ↓reduceIte, Nat.reduceAdd, Nat.reduceEqDiff, Nat.reduceBEq, beq_self_eq_true, Bool.not_true, Bool.not_false, Bool.and_true, Bool.and_false, Bool.true_and, Bool.false_and, gI_sI, gI_sL, gI_sA, gI_sM, gL_sI, gL_sL, gL_sA, gL_sM, aI_sI, aI_sL, aI_sA, aI_sM, aL_sI, aL_sL, aL_sA, aL_sM, Bmethod__0, Bmethod__4, Bmethod__12, Bmethod__14, Bmethod__20, Bmethod__33, Bmethod__50, Bmethod__54, Bmethod__63, Bmethod__68, Bmethod__77, Bmethod__82, Bmethod__91, Bmethod__92, oi_1, oi_10, oi_2, oi_m1]; try dsimp only
        refine ⟨trivial, ?_⟩
        exact ⟨_, rfl, rfl⟩
      · apply hB
        dsimp only [rgo, rfd, Bmethod_, Nat.beq, rwp, rst, lv_args, rlk, rs1, rs2, rdl, rky, rct, rcs, rcd, rno, rsw, Value.category, List.filter, List.take, List.drop, List.reverse, List.reverseAux, List.cons_append, List.nil_append, Option.toList, Int.toNat, Int.reduceToNat, if_pos, if_neg, reduceIte, ↓reduceIte, Nat.reduceAdd, Nat.reduceEqDiff, Nat.reduceBEq, beq_self_eq_true, Bool.not_true, Bool.not_false, Bool.and_true, Bool.and_false, Bool.true_and, Bool.false_and, gI_sI, gI_sL, gI_sA, gI_sM, gL_sI, gL_sL, gL_sA, gL_sM, aI_sI, aI_sL, aI_sA, aI_sM, aL_sI, aL_sL, aL_sA, aL_sM, Bmethod__0, Bmethod__4, Bmethod__12, Bmethod__14, Bmethod__20, Bmethod__33, Bmethod__50, Bmethod__54, Bmethod__63, Bmethod__68, Bmethod__77, Bmethod__82, Bmethod__91, Bmethod__92, oi_1, oi_10, oi_2, oi_m1]; try dsimp only
        refine ⟨rfl, fun h2 => ?_, fun h2 => ?_⟩
        · have hmk := hmt (by lia) (by lia)
          apply hB
          dsimp only [rgo, rfd, Bmethod_, Nat.beq, rwp, rst, lv_args, rlk, rs1, rs2, rdl, rky, rct, rcs, rcd, rno, rsw, Value.category, List.filter, List.take, List.drop, List.reverse, List.reverseAux, List.cons_append, List.nil_append, Option.toList, Int.toNat, Int.reduceToNat, if_pos, if_neg, reduceIte, ↓reduceIte, Nat.reduceAdd, Nat.reduceEqDiff, Nat.reduceBEq, beq_self_eq_true, Bool.not_true, Bool.not_false, Bool.and_true, Bool.and_false, Bool.true_and, Bool.false_and, gI_sI, gI_sL, gI_sA, gI_sM, gL_sI, gL_sL, gL_sA, gL_sM, aI_sI, aI_sL, aI_sA, aI_sM, aL_sI, aL_sL, aL_sA, aL_sM, Bmethod__0, Bmethod__4, Bmethod__12, Bmethod__14, Bmethod__20, Bmethod__33, Bmethod__50, Bmethod__54, Bmethod__63, Bmethod__68, Bmethod__77, Bmethod__82, Bmethod__91, Bmethod__92, oi_1, oi_10, oi_2, oi_m1]; try dsimp only
          refine ⟨fun h3 => ?_, fun h3 => ?_⟩
          · apply hB
            dsimp only [rgo, rfd, Bmethod_, Nat.beq, rwp, rst, lv_args, rlk, rs1, rs2, rdl, rky, rct, rcs, rcd, rno, rsw, Value.category, List.filter, List.take, List.drop, List.reverse, List.reverseAux, List.cons_append, List.nil_append, Option.toList, Int.toNat, Int.reduceToNat, if_pos, if_neg, reduceIte, ↓reduceIte, Nat.reduceAdd, Nat.reduceEqDiff, Nat.reduceBEq, beq_self_eq_true, Bool.not_true, Bool.not_false, Bool.and_true, Bool.and_false, Bool.true_and, Bool.false_and, gI_sI, gI_sL, gI_sA, gI_sM, gL_sI, gL_sL, gL_sA, gL_sM, aI_sI, aI_sL, aI_sA, aI_sM, aL_sI, aL_sL, aL_sA, aL_sM, Bmethod__0, Bmethod__4, Bmethod__12, Bmethod__14, Bmethod__20, Bmethod__33, Bmethod__50, Bmethod__54, Bmethod__63, Bmethod__68, Bmethod__77, Bmethod__82, Bmethod__91, Bmethod__92, oi_1, oi_10, oi_2, oi_m1]; try dsimp only
            refine ⟨fun h4 => ?_, fun h4 => ?_⟩
            · apply hB
              dsimp only [rgo, rfd, Bmethod_, Nat.beq, rwp, rst, lv_args, rlk, rs1, rs2, rdl, rky, rct, rcs, rcd, rno, rsw, Value.category, List.filter, List.take, List.drop, List.reverse, List.reverseAux, List.cons_append, List.nil_append, Option.toList, Int.toNat, Int.reduceToNat, if_pos, if_neg, reduceIte, ↓reduceIte, Nat.reduceAdd, Nat.reduceEqDiff, Nat.reduceBEq, beq_self_eq_true, Bool.not_true, Bool.not_false, Bool.and_true, Bool.and_false, Bool.true_and, Bool.false_and, gI_sI, gI_sL, gI_sA, gI_sM, gL_sI, gL_sL, gL_sA, gL_sM, aI_sI, aI_sL, aI_sA, aI_sM, aL_sI, aL_sL, aL_sA, aL_sM, Bmethod__0, Bmethod__4, Bmethod__12, Bmethod__14, Bmethod__20, Bmethod__33, Bmethod__50, Bmethod__54, Bmethod__63, Bmethod__68, Bmethod__77, Bmethod__82, Bmethod__91, Bmethod__92, oi_1, oi_10, oi_2, oi_m1]; try dsimp only
              refine ⟨fun h5 => ?_, fun h5 => ?_⟩
              · apply hB
                dsimp only [rgo, rfd, Bmethod_, Nat.beq, rwp, rst, lv_args, rlk, rs1, rs2, rdl, rky, rct, rcs, rcd, rno, rsw, Value.category, List.filter, List.take, List.drop, List.reverse, List.reverseAux, List.cons_append, List.nil_append, Option.toList, Int.toNat, Int.reduceToNat, if_pos, if_neg, reduceIte, ↓reduceIte, Nat.reduceAdd, Nat.reduceEqDiff, Nat.reduceBEq, beq_self_eq_true, Bool.not_true, Bool.not_false, Bool.and_true, Bool.and_false, Bool.true_and, Bool.false_and, gI_sI, gI_sL, gI_sA, gI_sM, gL_sI, gL_sL, gL_sA, gL_sM, aI_sI, aI_sL, aI_sA, aI_sM, aL_sI, aL_sL, aL_sA, aL_sM, Bmethod__0, Bmethod__4, Bmethod__12, Bmethod__14, Bmethod__20, Bmethod__33, Bmethod__50, Bmethod__54, Bmethod__63, Bmethod__68, Bmethod__77, Bmethod__82, Bmethod__91, Bmethod__92, oi_1, oi_10, oi_2, oi_m1]; try dsimp only
                refine ⟨fun h6 => ?_, fun h6 => ?_⟩
                · apply hB
                  dsimp only [rgo, rfd, Bmethod_, Nat.beq, rwp, rst, lv_args, rlk, rs1, rs2, rdl, rky, rct, rcs, rcd, rno, rsw, Value.category, List.filter, List.take, List.drop, List.reverse, List.reverseAux, List.cons_append, List.nil_append, Option.toList, Int.toNat, Int.reduceToNat, if_pos, if_neg, reduceIte, ↓reduceIte, Nat.reduceAdd, Nat.reduceEqDiff, Nat.reduceBEq, beq_self_eq_true, Bool.not_true, Bool.not_false, Bool.and_true, Bool.and_false, Bool.true_and, Bool.false_and, gI_sI, gI_sL, gI_sA, gI_sM, gL_sI, gL_sL, gL_sA, gL_sM, aI_sI, aI_sL, aI_sA, aI_sM, aL_sI, aL_sL, aL_sA, aL_sM, Bmethod__0, Bmethod__4, Bmethod__12, Bmethod__14, Bmethod__20, Bmethod__33, Bmethod__50, Bmethod__54, Bmethod__63, Bmethod__68, Bmethod__77, Bmethod__82, Bmethod__91, Bmethod__92, oi_1, oi_10, oi_2, oi_m1]; try dsimp only
                  apply hB
                  dsimp only [rgo, rfd, Bmethod_, Nat.beq, rwp, rst, lv_args, rlk, rs1, rs2, rdl, rky, rct, rcs, rcd, rno, rsw, Value.category, List.filter, List.take, List.drop, List.reverse, List.reverseAux, List.cons_append, List.nil_append, Option.toList, Int.toNat, Int.reduceToNat, if_pos, if_neg, reduceIte, ↓reduceIte, Nat.reduceAdd, Nat.reduceEqDiff, Nat.reduceBEq, beq_self_eq_true, Bool.not_true, Bool.not_false, Bool.and_true, Bool.and_false, Bool.true_and, Bool.false_and, gI_sI, gI_sL, gI_sA, gI_sM, gL_sI, gL_sL, gL_sA, gL_sM, aI_sI, aI_sL, aI_sA, aI_sM, aL_sI, aL_sL, aL_sA, aL_sM, Bmethod__0, Bmethod__4, Bmethod__12, Bmethod__14, Bmethod__20, Bmethod__33, Bmethod__50, Bmethod__54, Bmethod__63, Bmethod__68, Bmethod__77, Bmethod__82, Bmethod__91, Bmethod__92, oi_1, oi_10, oi_2, oi_m1]; try dsimp only
                  refine ⟨trivial, ?_⟩
                  exact ⟨_, rfl, rfl⟩
                · apply hB
                  dsimp only [rgo, rfd, Bmethod_, Nat.beq, rwp, rst, lv_args, rlk, rs1, rs2, rdl, rky, rct, rcs, rcd, rno, rsw, Value.category, List.filter, List.take, List.drop, List.reverse, List.reverseAux, List.cons_append, List.nil_append, Option.toList, Int.toNat, Int.reduceToNat, if_pos, if_neg, reduceIte, ↓reduceIte, Nat.reduceAdd, Nat.reduceEqDiff, Nat.reduceBEq, beq_self_eq_true, Bool.not_true, Bool.not_false, Bool.and_true, Bool.and_false, Bool.true_and, Bool.false_and, gI_sI, gI_sL, gI_sA, gI_sM, gL_sI, gL_sL, gL_sA, gL_sM, aI_sI, aI_sL, aI_sA, aI_sM, aL_sI, aL_sL, aL_sA, aL_sM, Bmethod__0, Bmethod__4, Bmethod__12, Bmethod__14, Bmethod__20, Bmethod__33, Bmethod__50, Bmethod__54, Bmethod__63, Bmethod__68, Bmethod__77, Bmethod__82, Bmethod__91, Bmethod__92, oi_1, oi_10, oi_2, oi_m1]; try dsimp only
                  refine ⟨rfl, rfl, (in_39 (by lia) (by lia)), ?_⟩
                  apply hB
                  dsimp only [rgo, rfd, Bmethod_, Nat.beq, rwp, rst, lv_args, rlk, rs1, rs2, rdl, rky, rct, rcs, rcd, rno, rsw, Value.category, List.filter, List.take, List.drop, List.reverse, List.reverseAux, List.cons_append, List.nil_append, Option.toList, Int.toNat, Int.reduceToNat, if_pos, if_neg, reduceIte, ↓reduceIte, Nat.reduceAdd, Nat.reduceEqDiff, Nat.reduceBEq, beq_self_eq_true, Bool.not_true, Bool.not_false, Bool.and_true, Bool.and_false, Bool.true_and, Bool.false_and, gI_sI, gI_sL, gI_sA, gI_sM, gL_sI, gL_sL, gL_sA, gL_sM, aI_sI, aI_sL, aI_sA, aI_sM, aL_sI, aL_sL, aL_sA, aL_sM, Bmethod__0, Bmethod__4, Bmethod__12, Bmethod__14, Bmethod__20, Bmethod__33, Bmethod__50, Bmethod__54, Bmethod__63, Bmethod__68, Bmethod__77, Bmethod__82, Bmethod__91, Bmethod__92, oi_1, oi_10, oi_2, oi_m1]; try dsimp only
                  refine ⟨trivial, ?_⟩
                  exact ⟨_, rfl, rfl⟩
              · apply hB
                dsimp only [rgo, rfd, Bmethod_, Nat.beq, rwp, rst, lv_args, rlk, rs1, rs2, rdl, rky, rct, rcs, rcd, rno, rsw, Value.category, List.filter, List.take, List.drop, List.reverse, List.reverseAux, List.cons_append, List.nil_append, Option.toList, Int.toNat, Int.reduceToNat, if_pos, if_neg, reduceIte, ↓reduceIte, Nat.reduceAdd, Nat.reduceEqDiff, Nat.reduceBEq, beq_self_eq_true, Bool.not_true, Bool.not_false, Bool.and_true, Bool.and_false, Bool.true_and, Bool.false_and, gI_sI, gI_sL, gI_sA, gI_sM, gL_sI, gL_sL, gL_sA, gL_sM, aI_sI, aI_sL, aI_sA, aI_sM, aL_sI, aL_sL, aL_sA, aL_sM, Bmethod__0, Bmethod__4, Bmethod__12, Bmethod__14, Bmethod__20, Bmethod__33, Bmethod__50, Bmethod__54, Bmethod__63, Bmethod__68, Bmethod__77, Bmethod__82, Bmethod__91, Bmethod__92, oi_1, oi_10, oi_2, oi_m1]; try dsimp only
                refine ⟨rfl, rfl, (in_38 (by lia) (by lia)), ?_⟩
                apply hB
                dsimp only [rgo, rfd, Bmethod_, Nat.beq, rwp, rst, lv_args, rlk, rs1, rs2, rdl, rky, rct, rcs, rcd, rno, rsw, Value.category, List.filter, List.take, List.drop, List.reverse, List.reverseAux, List.cons_append, List.nil_append, Option.toList, Int.toNat, Int.reduceToNat, if_pos, if_neg, reduceIte, ↓reduceIte, Nat.reduceAdd, Nat.reduceEqDiff, Nat.reduceBEq, beq_self_eq_true, Bool.not_true, Bool.not_false, Bool.and_true, Bool.and_false, Bool.true_and, Bool.false_and, gI_sI, gI_sL, gI_sA, gI_sM, gL_sI, gL_sL, gL_sA, gL_sM, aI_sI, aI_sL, aI_sA, aI_sM, aL_sI, aL_sL, aL_sA, aL_sM, Bmethod__0, Bmethod__4, Bmethod__12, Bmethod__14, Bmethod__20, Bmethod__33, Bmethod__50, Bmethod__54, Bmethod__63, Bmethod__68, Bmethod__77, Bmethod__82, Bmethod__91, Bmethod__92, oi_1, oi_10, oi_2, oi_m1]; try dsimp only
                refine ⟨trivial, ?_⟩
                exact ⟨_, rfl, rfl⟩
            · apply hB
              dsimp only [rgo, rfd, Bmethod_, Nat.beq, rwp, rst, lv_args, rlk, rs1, rs2, rdl, rky, rct, rcs, rcd, rno, rsw, Value.category, List.filter, List.take, List.drop, List.reverse, List.reverseAux, List.cons_append, List.nil_append, Option.toList, Int.toNat, Int.reduceToNat, if_pos, if_neg, reduceIte, ↓reduceIte, Nat.reduceAdd, Nat.reduceEqDiff, Nat.reduceBEq, beq_self_eq_true, Bool.not_true, Bool.not_false, Bool.and_true, Bool.and_false, Bool.true_and, Bool.false_and, gI_sI, gI_sL, gI_sA, gI_sM, gL_sI, gL_sL, gL_sA, gL_sM, aI_sI, aI_sL, aI_sA, aI_sM, aL_sI, aL_sL, aL_sA, aL_sM, Bmethod__0, Bmethod__4, Bmethod__12, Bmethod__14, Bmethod__20, Bmethod__33, Bmethod__50, Bmethod__54, Bmethod__63, Bmethod__68, Bmethod__77, Bmethod__82, Bmethod__91, Bmethod__92, oi_1, oi_10, oi_2, oi_m1]; try dsimp only
              refine ⟨rfl, rfl, (in_37 (by lia) (by lia)), ?_⟩
              apply hB
              dsimp only [rgo, rfd, Bmethod_, Nat.beq, rwp, rst, lv_args, rlk, rs1, rs2, rdl, rky, rct, rcs, rcd, rno, rsw, Value.category, List.filter, List.take, List.drop, List.reverse, List.reverseAux, List.cons_append, List.nil_append, Option.toList, Int.toNat, Int.reduceToNat, if_pos, if_neg, reduceIte, ↓reduceIte, Nat.reduceAdd, Nat.reduceEqDiff, Nat.reduceBEq, beq_self_eq_true, Bool.not_true, Bool.not_false, Bool.and_true, Bool.and_false, Bool.true_and, Bool.false_and, gI_sI, gI_sL, gI_sA, gI_sM, gL_sI, gL_sL, gL_sA, gL_sM, aI_sI, aI_sL, aI_sA, aI_sM, aL_sI, aL_sL, aL_sA, aL_sM, Bmethod__0, Bmethod__4, Bmethod__12, Bmethod__14, Bmethod__20, Bmethod__33, Bmethod__50, Bmethod__54, Bmethod__63, Bmethod__68, Bmethod__77, Bmethod__82, Bmethod__91, Bmethod__92, oi_1, oi_10, oi_2, oi_m1]; try dsimp only
              refine ⟨trivial, ?_⟩
              exact ⟨_, rfl, rfl⟩
          · apply hB
            dsimp only [rgo, rfd, Bmethod_, Nat.beq, rwp, rst, lv_args, rlk, rs1, rs2, rdl, rky, rct, rcs, rcd, rno, rsw, Value.category, List.filter, List.take, List.drop, List.reverse, List.reverseAux, List.cons_append, List.nil_append, Option.toList, Int.toNat, Int.reduceToNat, if_pos, if_neg, reduceIte, ↓reduceIte, Nat.reduceAdd, Nat.reduceEqDiff, Nat.reduceBEq, beq_self_eq_true, Bool.not_true, Bool.not_false, Bool.and_true, Bool.and_false, Bool.true_and, Bool.false_and, gI_sI, gI_sL, gI_sA, gI_sM, gL_sI, gL_sL, gL_sA, gL_sM, aI_sI, aI_sL, aI_sA, aI_sM, aL_sI, aL_sL, aL_sA, aL_sM, Bmethod__0, Bmethod__4, Bmethod__12, Bmethod__14, Bmethod__20, Bmethod__33, Bmethod__50, Bmethod__54, Bmethod__63, Bmethod__68, Bmethod__77, Bmethod__82, Bmethod__91, Bmethod__92, oi_1, oi_10, oi_2, oi_m1]; try dsimp only
            refine ⟨rfl, rfl, (in_39 (by lia) (by lia)), fun h7 => ?_, fun h7 => ?_⟩
            · apply hB
              dsimp only [rgo, rfd, Bmethod_, Nat.beq, rwp, rst, lv_args, rlk, rs1, rs2, rdl, rky, rct, rcs, rcd, rno, rsw, Value.category, List.filter, List.take, List.drop, List.reverse, List.reverseAux, List.cons_append, List.nil_append, Option.toList, Int.toNat, Int.reduceToNat, if_pos, if_neg, reduceIte, ↓reduceIte, Nat.reduceAdd, Nat.reduceEqDiff, Nat.reduceBEq, beq_self_eq_true, Bool.not_true, Bool.not_false, Bool.and_true, Bool.and_false, Bool.true_and, Bool.false_and, gI_sI, gI_sL, gI_sA, gI_sM, gL_sI, gL_sL, gL_sA, gL_sM, aI_sI, aI_sL, aI_sA, aI_sM, aL_sI, aL_sL, aL_sA, aL_sM, Bmethod__0, Bmethod__4, Bmethod__12, Bmethod__14, Bmethod__20, Bmethod__33, Bmethod__50, Bmethod__54, Bmethod__63, Bmethod__68, Bmethod__77, Bmethod__82, Bmethod__91, Bmethod__92, oi_1, oi_10, oi_2, oi_m1]; try dsimp only
              refine ⟨fun h8 => ?_, fun h8 => ?_⟩
              · apply hB
                dsimp only [rgo, rfd, Bmethod_, Nat.beq, rwp, rst, lv_args, rlk, rs1, rs2, rdl, rky, rct, rcs, rcd, rno, rsw, Value.category, List.filter, List.take, List.drop, List.reverse, List.reverseAux, List.cons_append, List.nil_append, Option.toList, Int.toNat, Int.reduceToNat, if_pos, if_neg, reduceIte, ↓reduceIte, Nat.reduceAdd, Nat.reduceEqDiff, Nat.reduceBEq, beq_self_eq_true, Bool.not_true, Bool.not_false, Bool.and_true, Bool.and_false, Bool.true_and, Bool.false_and, gI_sI, gI_sL, gI_sA, gI_sM, gL_sI, gL_sL, gL_sA, gL_sM, aI_sI, aI_sL, aI_sA, aI_sM, aL_sI, aL_sL, aL_sA, aL_sM, Bmethod__0, Bmethod__4, Bmethod__12, Bmethod__14, Bmethod__20, Bmethod__33, Bmethod__50, Bmethod__54, Bmethod__63, Bmethod__68, Bmethod__77, Bmethod__82, Bmethod__91, Bmethod__92, oi_1, oi_10, oi_2, oi_m1]; try dsimp only
                refine ⟨fun h9 => ?_, fun h9 => ?_⟩
                · apply hB
                  dsimp only [rgo, rfd, Bmethod_, Nat.beq, rwp, rst, lv_args, rlk, rs1, rs2, rdl, rky, rct, rcs, rcd, rno, rsw, Value.category, List.filter, List.take, List.drop, List.reverse, List.reverseAux, List.cons_append, List.nil_append, Option.toList, Int.toNat, Int.reduceToNat, if_pos, if_neg, reduceIte, ↓reduceIte, Nat.reduceAdd, Nat.reduceEqDiff, Nat.reduceBEq, beq_self_eq_true, Bool.not_true, Bool.not_false, Bool.and_true, Bool.and_false, Bool.true_and, Bool.false_and, gI_sI, gI_sL, gI_sA, gI_sM, gL_sI, gL_sL, gL_sA, gL_sM, aI_sI, aI_sL, aI_sA, aI_sM, aL_sI, aL_sL, aL_sA, aL_sM, Bmethod__0, Bmethod__4, Bmethod__12, Bmethod__14, Bmethod__20, Bmethod__33, Bmethod__50, Bmethod__54, Bmethod__63, Bmethod__68, Bmethod__77, Bmethod__82, Bmethod__91, Bmethod__92, oi_1, oi_10, oi_2, oi_m1]; try dsimp only
                  refine ⟨fun h10 => ?_, fun h10 => ?_⟩
                  · apply hB
                    dsimp only [rgo, rfd, Bmethod_, Nat.beq, rwp, rst, lv_args, rlk, rs1, rs2, rdl, rky, rct, rcs, rcd, rno, rsw, Value.category, List.filter, List.take, List.drop, List.reverse, List.reverseAux, List.cons_append, List.nil_append, Option.toList, Int.toNat, Int.reduceToNat, if_pos, if_neg, reduceIte, ↓reduceIte, Nat.reduceAdd, Nat.reduceEqDiff, Nat.reduceBEq, beq_self_eq_true, Bool.not_true, Bool.not_false, Bool.and_true, Bool.and_false, Bool.true_and, Bool.false_and, gI_sI, gI_sL, gI_sA, gI_sM, gL_sI, gL_sL, gL_sA, gL_sM, aI_sI, aI_sL, aI_sA, aI_sM, aL_sI, aL_sL, aL_sA, aL_sM, Bmethod__0, Bmethod__4, Bmethod__12, Bmethod__14, Bmethod__20, Bmethod__33, Bmethod__50, Bmethod__54, Bmethod__63, Bmethod__68, Bmethod__77, Bmethod__82, Bmethod__91, Bmethod__92, oi_1, oi_10, oi_2, oi_m1]; try dsimp only
                    apply hB
                    dsimp only [rgo, rfd, Bmethod_, Nat.beq, rwp, rst, lv_args, rlk, rs1, rs2, rdl, rky, rct, rcs, rcd, rno, rsw, Value.category, List.filter, List.take, List.drop, List.reverse, List.reverseAux, List.cons_append, List.nil_append, Option.toList, Int.toNat, Int.reduceToNat, if_pos, if_neg, reduceIte, ↓reduceIte, Nat.reduceAdd, Nat.reduceEqDiff, Nat.reduceBEq, beq_self_eq_true, Bool.not_true, Bool.not_false, Bool.and_true, Bool.and_false, Bool.true_and, Bool.false_and, gI_sI, gI_sL, gI_sA, gI_sM, gL_sI, gL_sL, gL_sA, gL_sM, aI_sI, aI_sL, aI_sA, aI_sM, aL_sI, aL_sL, aL_sA, aL_sM, Bmethod__0, Bmethod__4, Bmethod__12, Bmethod__14, Bmethod__20, Bmethod__33, Bmethod__50, Bmethod__54, Bmethod__63, Bmethod__68, Bmethod__77, Bmethod__82, Bmethod__91, Bmethod__92, oi_1, oi_10, oi_2, oi_m1]; try dsimp only
                    refine ⟨trivial, ?_⟩
                    exact ⟨_, rfl, rfl⟩
                  · apply hB
                    dsimp only [rgo, rfd, Bmethod_, Nat.beq, rwp, rst, lv_args, rlk, rs1, rs2, rdl, rky, rct, rcs, rcd, rno, rsw, Value.category, List.filter, List.take, List.drop, List.reverse, List.reverseAux, List.cons_append, List.nil_append, Option.toList, Int.toNat, Int.reduceToNat, if_pos, if_neg, reduceIte, ↓reduceIte, Nat.reduceAdd, Nat.reduceEqDiff, Nat.reduceBEq, beq_self_eq_true, Bool.not_true, Bool.not_false, Bool.and_true, Bool.and_false, Bool.true_and, Bool.false_and, gI_sI, gI_sL, gI_sA, gI_sM, gL_sI, gL_sL, gL_sA, gL_sM, aI_sI, aI_sL, aI_sA, aI_sM, aL_sI, aL_sL, aL_sA, aL_sM, Bmethod__0, Bmethod__4, Bmethod__12, Bmethod__14, Bmethod__20, Bmethod__33, Bmethod__50, Bmethod__54, Bmethod__63, Bmethod__68, Bmethod__77, Bmethod__82, Bmethod__91, Bmethod__92, oi_1, oi_10, oi_2, oi_m1]; try dsimp only
                    refine ⟨rfl, rfl, (in_39 (by lia) (by lia)), ?_⟩
                    apply hB
                    dsimp only [rgo, rfd, Bmethod_, Nat.beq, rwp, rst, lv_args, rlk, rs1, rs2, rdl, rky, rct, rcs, rcd, rno, rsw, Value.category, List.filter, List.take, List.drop, List.reverse, List.reverseAux, List.cons_append, List.nil_append, Option.toList, Int.toNat, Int.reduceToNat, if_pos, if_neg, reduceIte, ↓reduceIte, Nat.reduceAdd, Nat.reduceEqDiff, Nat.reduceBEq, beq_self_eq_true, Bool.not_true, Bool.not_false, Bool.and_true, Bool.and_false, Bool.true_and, Bool.false_and, gI_sI, gI_sL, gI_sA, gI_sM, gL_sI, gL_sL, gL_sA, gL_sM, aI_sI, aI_sL, aI_sA, aI_sM, aL_sI, aL_sL, aL_sA, aL_sM, Bmethod__0, Bmethod__4, Bmethod__12, Bmethod__14, Bmethod__20, Bmethod__33, Bmethod__50, Bmethod__54, Bmethod__63, Bmethod__68, Bmethod__77, Bmethod__82, Bmethod__91, Bmethod__92, oi_1, oi_10, oi_2, oi_m1]; try dsimp only
                    refine ⟨trivial, ?_⟩
                    exact ⟨_, rfl, rfl⟩
                · apply hB
                  dsimp only [rgo, rfd, Bmethod_, Nat.beq, rwp, rst, lv_args, rlk, rs1, rs2, rdl, rky, rct, rcs, rcd, rno, rsw, Value.category, List.filter, List.take, List.drop, List.reverse, List.reverseAux, List.cons_append, List.nil_append, Option.toList, Int.toNat, Int.reduceToNat, if_pos, if_neg, reduceIte, ↓reduceIte, Nat.reduceAdd, Nat.reduceEqDiff, Nat.reduceBEq, beq_self_eq_true, Bool.not_true, Bool.not_false, Bool.and_true, Bool.and_false, Bool.true_and, Bool.false_and, gI_sI, gI_sL, gI_sA, gI_sM, gL_sI, gL_sL, gL_sA, gL_sM, aI_sI, aI_sL, aI_sA, aI_sM, aL_sI, aL_sL, aL_sA, aL_sM, Bmethod__0, Bmethod__4, Bmethod__12, Bmethod__14, Bmethod__20, Bmethod__33, Bmethod__50, Bmethod__54, Bmethod__63, Bmethod__68, Bmethod__77, Bmethod__82, Bmethod__91, Bmethod__92, oi_1, oi_10, oi_2, oi_m1]; try dsimp only
                  refine ⟨rfl, rfl, (in_38 (by lia) (by lia)), ?_⟩
                  apply hB
                  dsimp only [rgo, rfd, Bmethod_, Nat.beq, rwp, rst, lv_args, rlk, rs1, rs2, rdl, rky, rct, rcs, rcd, rno, rsw, Value.category, List.filter, List.take, List.drop, List.reverse, List.reverseAux, List.cons_append, List.nil_append, Option.toList, Int.toNat, Int.reduceToNat, if_pos, if_neg, reduceIte, ↓reduceIte, Nat.reduceAdd, Nat.reduceEqDiff, Nat.reduceBEq, beq_self_eq_true, Bool.not_true, Bool.not_false, Bool.and_true, Bool.and_false, Bool.true_and, Bool.false_and, gI_sI, gI_sL, gI_sA, gI_sM, gL_sI, gL_sL, gL_sA, gL_sM, aI_sI, aI_sL, aI_sA, aI_sM, aL_sI, aL_sL, aL_sA, aL_sM, Bmethod__0, Bmethod__4, Bmethod__12, Bmethod__14, Bmethod__20, Bmethod__33, Bmethod__50, Bmethod__54, Bmethod__63, Bmethod__68, Bmethod__77, Bmethod__82, Bmethod__91, Bmethod__92, oi_1, oi_10, oi_2, oi_m1]; try dsimp only
                  refine ⟨trivial, ?_⟩
                  exact ⟨_, rfl, rfl⟩
              · apply hB
                dsimp only [rgo, rfd, Bmethod_, Nat.beq, rwp, rst, lv_args, rlk, rs1, rs2, rdl, rky, rct, rcs, rcd, rno, rsw, Value.category, List.filter, List.take, List.drop, List.reverse, List.reverseAux, List.cons_append, List.nil_append, Option.toList, Int.toNat, Int.reduceToNat, if_pos, if_neg, reduceIte, ↓reduceIte, Nat.reduceAdd, Nat.reduceEqDiff, Nat.reduceBEq, beq_self_eq_true, Bool.not_true, Bool.not_false, Bool.and_true, Bool.and_false, Bool.true_and, Bool.false_and, gI_sI, gI_sL, gI_sA, gI_sM, gL_sI, gL_sL, gL_sA, gL_sM, aI_sI, aI_sL, aI_sA, aI_sM, aL_sI, aL_sL, aL_sA, aL_sM, Bmethod__0, Bmethod__4, Bmethod__12, Bmethod__14, Bmethod__20, Bmethod__33, Bmethod__50, Bmethod__54, Bmethod__63, Bmethod__68, Bmethod__77, Bmethod__82, Bmethod__91, Bmethod__92, oi_1, oi_10, oi_2, oi_m1]; try dsimp only
                refine ⟨rfl, rfl, (in_37 (by lia) (by lia)), ?_⟩
                apply hB
                dsimp only [rgo, rfd, Bmethod_, Nat.beq, rwp, rst, lv_args, rlk, rs1, rs2, rdl, rky, rct, rcs, rcd, rno, rsw, Value.category, List.filter, List.take, List.drop, List.reverse, List.reverseAux, List.cons_append, List.nil_append, Option.toList, Int.toNat, Int.reduceToNat, if_pos, if_neg, reduceIte, ↓reduceIte, Nat.reduceAdd, Nat.reduceEqDiff, Nat.reduceBEq, beq_self_eq_true, Bool.not_true, Bool.not_false, Bool.and_true, Bool.and_false, Bool.true_and, Bool.false_and, gI_sI, gI_sL, gI_sA, gI_sM, gL_sI, gL_sL, gL_sA, gL_sM, aI_sI, aI_sL, aI_sA, aI_sM, aL_sI, aL_sL, aL_sA, aL_sM, Bmethod__0, Bmethod__4, Bmethod__12, Bmethod__14, Bmethod__20, Bmethod__33, Bmethod__50, Bmethod__54, Bmethod__63, Bmethod__68, Bmethod__77, Bmethod__82, Bmethod__91, Bmethod__92, oi_1, oi_10, oi_2, oi_m1]; try dsimp only
                refine ⟨trivial, ?_⟩
                exact ⟨_, rfl, rfl⟩
            · apply hB
              dsimp only [rgo, rfd, Bmethod_, Nat.beq, rwp, rst, lv_args, rlk, rs1, rs2, rdl, rky, rct, rcs, rcd, rno, rsw, Value.category, List.filter, List.take, List.drop, List.reverse, List.reverseAux, List.cons_append, List.nil_append, Option.toList, Int.toNat, Int.reduceToNat, if_pos, if_neg, reduceIte, ↓reduceIte, Nat.reduceAdd, Nat.reduceEqDiff, Nat.reduceBEq, beq_self_eq_true, Bool.not_true, Bool.not_false, Bool.and_true, Bool.and_false, Bool.true_and, Bool.false_and, gI_sI, gI_sL, gI_sA, gI_sM, gL_sI, gL_sL, gL_sA, gL_sM, aI_sI, aI_sL, aI_sA, aI_sM, aL_sI, aL_sL, aL_sA, aL_sM, Bmethod__0, Bmethod__4, Bmethod__12, Bmethod__14, Bmethod__20, Bmethod__33, Bmethod__50, Bmethod__54, Bmethod__63, Bmethod__68, Bmethod__77, Bmethod__82, Bmethod__91, Bmethod__92, oi_1, oi_10, oi_2, oi_m1]; try dsimp only
              refine ⟨rfl, rfl, rfl, (in_40 (by lia) (by lia)), rfl, (in_44 (by lia) (by lia)), trivial, ?_⟩
              exact ⟨_, rfl, rfl⟩
        · apply hB
          dsimp only [rgo, rfd, Bmethod_, Nat.beq, rwp, rst, lv_args, rlk, rs1, rs2, rdl, rky, rct, rcs, rcd, rno, rsw, Value.category, List.filter, List.take, List.drop, List.reverse, List.reverseAux, List.cons_append, List.nil_append, Option.toList, Int.toNat, Int.reduceToNat, if_pos, if_neg, reduceIte, ↓reduceIte, Nat.reduceAdd, Nat.reduceEqDiff, Nat.reduceBEq, beq_self_eq_true, Bool.not_true, Bool.not_false, Bool.and_true, Bool.and_false, Bool.true_and, Bool.false_and, gI_sI, gI_sL, gI_sA, gI_sM, gL_sI, gL_sL, gL_sA, gL_sM, aI_sI, aI_sL, aI_sA, aI_sM, aL_sI, aL_sL, aL_sA, aL_sM, Bmethod__0, Bmethod__4, Bmethod__12, Bmethod__14, Bmethod__20, Bmethod__33, Bmethod__50, Bmethod__54, Bmethod__63, Bmethod__68, Bmethod__77, Bmethod__82, Bmethod__91, Bmethod__92, oi_1, oi_10, oi_2, oi_m1]; try dsimp only
          refine ⟨trivial, ?_⟩
          exact ⟨_, rfl, rfl⟩
    next => exact hP.elim
