/-- the program that stands, but for its defaults -/
def PJ (σ : RS) : Prop := ∃ f s k j, PI (sI (sA σ 59 f) 62 0) [] s k j
def P_err : RP := fun As σ => match As with
  | [.int what, .int t] => (0 ≤ t ∧ t ≤ 2599) ∧ ¬ what = 0
  | _ => False
def Q_err : RQ := fun As σ w τ => match As with
  | [.int what, .int t] => w = none ∧ ∃ a b : Int32, τ = sI (sI σ 66 a) 67 b ∧ ¬ a = 0
  | _ => False
set_option maxRecDepth 100000 in
set_option maxHeartbeats 4000000 in
theorem b_err : Bod Berr [] P_err Q_err := by
  · intro As σ hP G hB hW
    unfold P_err at hP
    split at hP
    next what t => 
      unfold Q_err at hB
      dsimp only at hB
      apply hB
      dsimp only [rgo, rfd, Berr, Nat.beq, rwp, rst, lv_args, rlk, rs1, rs2, rdl, rky, rct, rcs, rcd, rno, rsw, Value.category, List.filter, List.take, List.drop, List.reverse, List.reverseAux, List.cons_append, List.nil_append, Option.toList, Int.toNat, Int.reduceToNat, if_pos, if_neg, reduceIte, ↓reduceIte, Nat.reduceAdd, Nat.reduceEqDiff, Nat.reduceBEq, beq_self_eq_true, Bool.not_true, Bool.not_false, Bool.and_true, Bool.and_false, Bool.true_and, Bool.false_and, gI_sI, gI_sL, gI_sA, gI_sM, gL_sI, gL_sL, gL_sA, gL_sM, aI_sI, aI_sL, aI_sA, aI_sM, aL_sI, aL_sL, aL_sA, aL_sM, Berr_0, Berr_14, Berr_22, Berr_30, Berr_38, Berr_39]; try dsimp only
      refine ⟨rfl, rfl, (in_4 (by lia) (by lia)), rfl, fun h1 => ?_, fun h1 => ?_⟩
      · apply hB
        dsimp only [rgo, rfd, Berr, Nat.beq, rwp, rst, lv_args, rlk, rs1, rs2, rdl, rky, rct, rcs, rcd, rno, rsw, Value.category, List.filter, List.take, List.drop, List.reverse, List.reverseAux, List.cons_append, List.nil_append, Option.toList, Int.toNat, Int.reduceToNat, if_pos, if_neg, reduceIte, ↓reduceIte, Nat.reduceAdd, Nat.reduceEqDiff, Nat.reduceBEq, beq_self_eq_true, Bool.not_true, Bool.not_false, Bool.and_true, Bool.and_false, Bool.true_and, Bool.false_and, gI_sI, gI_sL, gI_sA, gI_sM, gL_sI, gL_sL, gL_sA, gL_sM, aI_sI, aI_sL, aI_sA, aI_sM, aL_sI, aL_sL, aL_sA, aL_sM, Berr_0, Berr_14, Berr_22, Berr_30, Berr_38, Berr_39]; try dsimp only
        refine ⟨rfl, rfl, ?_⟩
        exact ⟨rfl, _, _, rfl, hP.2⟩
      · apply hB
        dsimp only [rgo, rfd, Berr, Nat.beq, rwp, rst, lv_args, rlk, rs1, rs2, rdl, rky, rct, rcs, rcd, rno, rsw, Value.category, List.filter, List.take, List.drop, List.reverse, List.reverseAux, List.cons_append, List.nil_append, Option.toList, Int.toNat, Int.reduceToNat, if_pos, if_neg, reduceIte, ↓reduceIte, Nat.reduceAdd, Nat.reduceEqDiff, Nat.reduceBEq, beq_self_eq_true, Bool.not_true, Bool.not_false, Bool.and_true, Bool.and_false, Bool.true_and, Bool.false_and, gI_sI, gI_sL, gI_sA, gI_sM, gL_sI, gL_sL, gL_sA, gL_sM, aI_sI, aI_sL, aI_sA, aI_sM, aL_sI, aL_sL, aL_sA, aL_sM, Berr_0, Berr_14, Berr_22, Berr_30, Berr_38, Berr_39]; try dsimp only
        refine ⟨rfl, fun h2 => ?_, fun h2 => ?_⟩
        · apply hB
          dsimp only [rgo, rfd, Berr, Nat.beq, rwp, rst, lv_args, rlk, rs1, rs2, rdl, rky, rct, rcs, rcd, rno, rsw, Value.category, List.filter, List.take, List.drop, List.reverse, List.reverseAux, List.cons_append, List.nil_append, Option.toList, Int.toNat, Int.reduceToNat, if_pos, if_neg, reduceIte, ↓reduceIte, Nat.reduceAdd, Nat.reduceEqDiff, Nat.reduceBEq, beq_self_eq_true, Bool.not_true, Bool.not_false, Bool.and_true, Bool.and_false, Bool.true_and, Bool.false_and, gI_sI, gI_sL, gI_sA, gI_sM, gL_sI, gL_sL, gL_sA, gL_sM, aI_sI, aI_sL, aI_sA, aI_sM, aL_sI, aL_sL, aL_sA, aL_sM, Berr_0, Berr_14, Berr_22, Berr_30, Berr_38, Berr_39]; try dsimp only
          exact ⟨rfl, gI σ 66, gI σ 67, by simp only [sI_id], by assumption⟩
        · apply hB
          dsimp only [rgo, rfd, Berr, Nat.beq, rwp, rst, lv_args, rlk, rs1, rs2, rdl, rky, rct, rcs, rcd, rno, rsw, Value.category, List.filter, List.take, List.drop, List.reverse, List.reverseAux, List.cons_append, List.nil_append, Option.toList, Int.toNat, Int.reduceToNat, if_pos, if_neg, reduceIte, ↓reduceIte, Nat.reduceAdd, Nat.reduceEqDiff, Nat.reduceBEq, beq_self_eq_true, Bool.not_true, Bool.not_false, Bool.and_true, Bool.and_false, Bool.true_and, Bool.false_and, gI_sI, gI_sL, gI_sA, gI_sM, gL_sI, gL_sL, gL_sA, gL_sM, aI_sI, aI_sL, aI_sA, aI_sM, aL_sI, aL_sL, aL_sA, aL_sM, Berr_0, Berr_14, Berr_22, Berr_30, Berr_38, Berr_39]; try dsimp only
          refine ⟨rfl, fun h3 => ?_, fun h3 => ?_⟩
          · apply hB
            dsimp only [rgo, rfd, Berr, Nat.beq, rwp, rst, lv_args, rlk, rs1, rs2, rdl, rky, rct, rcs, rcd, rno, rsw, Value.category, List.filter, List.take, List.drop, List.reverse, List.reverseAux, List.cons_append, List.nil_append, Option.toList, Int.toNat, Int.reduceToNat, if_pos, if_neg, reduceIte, ↓reduceIte, Nat.reduceAdd, Nat.reduceEqDiff, Nat.reduceBEq, beq_self_eq_true, Bool.not_true, Bool.not_false, Bool.and_true, Bool.and_false, Bool.true_and, Bool.false_and, gI_sI, gI_sL, gI_sA, gI_sM, gL_sI, gL_sL, gL_sA, gL_sM, aI_sI, aI_sL, aI_sA, aI_sM, aL_sI, aL_sL, aL_sA, aL_sM, Berr_0, Berr_14, Berr_22, Berr_30, Berr_38, Berr_39]; try dsimp only
            refine ⟨rfl, rfl, ?_⟩
            exact ⟨rfl, _, _, rfl, hP.2⟩
          · apply hB
            dsimp only [rgo, rfd, Berr, Nat.beq, rwp, rst, lv_args, rlk, rs1, rs2, rdl, rky, rct, rcs, rcd, rno, rsw, Value.category, List.filter, List.take, List.drop, List.reverse, List.reverseAux, List.cons_append, List.nil_append, Option.toList, Int.toNat, Int.reduceToNat, if_pos, if_neg, reduceIte, ↓reduceIte, Nat.reduceAdd, Nat.reduceEqDiff, Nat.reduceBEq, beq_self_eq_true, Bool.not_true, Bool.not_false, Bool.and_true, Bool.and_false, Bool.true_and, Bool.false_and, gI_sI, gI_sL, gI_sA, gI_sM, gL_sI, gL_sL, gL_sA, gL_sM, aI_sI, aI_sL, aI_sA, aI_sM, aL_sI, aL_sL, aL_sA, aL_sM, Berr_0, Berr_14, Berr_22, Berr_30, Berr_38, Berr_39]; try dsimp only
            refine ⟨rfl, fun h4 => ?_, fun h4 => ?_⟩
            · apply hB
              dsimp only [rgo, rfd, Berr, Nat.beq, rwp, rst, lv_args, rlk, rs1, rs2, rdl, rky, rct, rcs, rcd, rno, rsw, Value.category, List.filter, List.take, List.drop, List.reverse, List.reverseAux, List.cons_append, List.nil_append, Option.toList, Int.toNat, Int.reduceToNat, if_pos, if_neg, reduceIte, ↓reduceIte, Nat.reduceAdd, Nat.reduceEqDiff, Nat.reduceBEq, beq_self_eq_true, Bool.not_true, Bool.not_false, Bool.and_true, Bool.and_false, Bool.true_and, Bool.false_and, gI_sI, gI_sL, gI_sA, gI_sM, gL_sI, gL_sL, gL_sA, gL_sM, aI_sI, aI_sL, aI_sA, aI_sM, aL_sI, aL_sL, aL_sA, aL_sM, Berr_0, Berr_14, Berr_22, Berr_30, Berr_38, Berr_39]; try dsimp only
              refine ⟨rfl, rfl, ?_⟩
              exact ⟨rfl, _, _, rfl, hP.2⟩
            · apply hB
              dsimp only [rgo, rfd, Berr, Nat.beq, rwp, rst, lv_args, rlk, rs1, rs2, rdl, rky, rct, rcs, rcd, rno, rsw, Value.category, List.filter, List.take, List.drop, List.reverse, List.reverseAux, List.cons_append, List.nil_append, Option.toList, Int.toNat, Int.reduceToNat, if_pos, if_neg, reduceIte, ↓reduceIte, Nat.reduceAdd, Nat.reduceEqDiff, Nat.reduceBEq, beq_self_eq_true, Bool.not_true, Bool.not_false, Bool.and_true, Bool.and_false, Bool.true_and, Bool.false_and, gI_sI, gI_sL, gI_sA, gI_sM, gL_sI, gL_sL, gL_sA, gL_sM, aI_sI, aI_sL, aI_sA, aI_sM, aL_sI, aL_sL, aL_sA, aL_sM, Berr_0, Berr_14, Berr_22, Berr_30, Berr_38, Berr_39]; try dsimp only
              exact ⟨rfl, gI σ 66, gI σ 67, by simp only [sI_id], by assumption⟩
    next => exact hP.elim
theorem m_err (l : Launch) : RMet l 1 70 P_err Q_err := by
  refine RMet.by Berr [] roerr okBerr ct0 ?_ b_err
  · intro As σ hP
    unfold P_err at hP
    split at hP
    next => exact Nat.le_of_ble_eq_true rfl
    next => exact hP.elim
set_option maxRecDepth 100000 in
theorem e_err (l : Launch) : RMetE l 1 70 P_err Q_err := by
  refine RMetE.by Berr [] rfl rfl roerr okBerr ctE0 ?_ b_err
  · intro As σ hP
    unfold P_err at hP
    split at hP
    next => exact Nat.le_of_ble_eq_true rfl
    next => exact hP.elim
def P_isBad : RP := fun As σ => match As with
  | [.int s] => 0 ≤ s ∧ s < 700
  | _ => False
def Q_isBad : RQ := fun As σ w τ => match As with
  | [.int s] => ∃ r : Int32, w = some (.int r) ∧ ((r = 0 ∧ ¬ aI σ 70 s.toNatClampNeg = -2) ∨ (r = 1 ∧ aI σ 70 s.toNatClampNeg = -2)) ∧ τ = σ
  | _ => False
set_option maxRecDepth 100000 in
set_option maxHeartbeats 4000000 in
theorem b_isBad : Bod BisBad [] P_isBad Q_isBad := by
  · intro As σ hP G hB hW
    unfold P_isBad at hP
    split at hP
    next s => 
      unfold Q_isBad at hB
      dsimp only at hB
      apply hB
      dsimp only [rgo, rfd, BisBad, Nat.beq, rwp, rst, lv_args, rlk, rs1, rs2, rdl, rky, rct, rcs, rcd, rno, rsw, Value.category, List.filter, List.take, List.drop, List.reverse, List.reverseAux, List.cons_append, List.nil_append, Option.toList, Int.toNat, Int.reduceToNat, if_pos, if_neg, reduceIte, ↓reduceIte, Nat.reduceAdd, Nat.reduceEqDiff, Nat.reduceBEq, beq_self_eq_true, Bool.not_true, Bool.not_false, Bool.and_true, Bool.and_false, Bool.true_and, Bool.false_and, gI_sI, gI_sL, gI_sA, gI_sM, gL_sI, gL_sL, gL_sA, gL_sM, aI_sI, aI_sL, aI_sA, aI_sM, aL_sI, aL_sL, aL_sA, aL_sM, BisBad_0, BisBad_11, BisBad_15, BisBad_16, oi_0, oi_1, oi_m2]; try dsimp only
      refine ⟨rfl, rfl, (in_70 (by lia) (by lia)), fun h1 => ?_, fun h1 => ?_⟩
      · apply hB
        dsimp only [rgo, rfd, BisBad, Nat.beq, rwp, rst, lv_args, rlk, rs1, rs2, rdl, rky, rct, rcs, rcd, rno, rsw, Value.category, List.filter, List.take, List.drop, List.reverse, List.reverseAux, List.cons_append, List.nil_append, Option.toList, Int.toNat, Int.reduceToNat, if_pos, if_neg, reduceIte, ↓reduceIte, Nat.reduceAdd, Nat.reduceEqDiff, Nat.reduceBEq, beq_self_eq_true, Bool.not_true, Bool.not_false, Bool.and_true, Bool.and_false, Bool.true_and, Bool.false_and, gI_sI, gI_sL, gI_sA, gI_sM, gL_sI, gL_sL, gL_sA, gL_sM, aI_sI, aI_sL, aI_sA, aI_sM, aL_sI, aL_sL, aL_sA, aL_sM, BisBad_0, BisBad_11, BisBad_15, BisBad_16, oi_0, oi_1, oi_m2]; try dsimp only
        apply hB
        dsimp only [rgo, rfd, BisBad, Nat.beq, rwp, rst, lv_args, rlk, rs1, rs2, rdl, rky, rct, rcs, rcd, rno, rsw, Value.category, List.filter, List.take, List.drop, List.reverse, List.reverseAux, List.cons_append, List.nil_append, Option.toList, Int.toNat, Int.reduceToNat, if_pos, if_neg, reduceIte, ↓reduceIte, Nat.reduceAdd, Nat.reduceEqDiff, Nat.reduceBEq, beq_self_eq_true, Bool.not_true, Bool.not_false, Bool.and_true, Bool.and_false, Bool.true_and, Bool.false_and, gI_sI, gI_sL, gI_sA, gI_sM, gL_sI, gL_sL, gL_sA, gL_sM, aI_sI, aI_sL, aI_sA, aI_sM, aL_sI, aL_sL, aL_sA, aL_sM, BisBad_0, BisBad_11, BisBad_15, BisBad_16, oi_0, oi_1, oi_m2]; try dsimp only
        refine ⟨Or.inl rfl, ?_⟩
        exact ⟨_, rfl, by lia, rfl⟩
      · apply hB
        dsimp only [rgo, rfd, BisBad, Nat.beq, rwp, rst, lv_args, rlk, rs1, rs2, rdl, rky, rct, rcs, rcd, rno, rsw, Value.category, List.filter, List.take, List.drop, List.reverse, List.reverseAux, List.cons_append, List.nil_append, Option.toList, Int.toNat, Int.reduceToNat, if_pos, if_neg, reduceIte, ↓reduceIte, Nat.reduceAdd, Nat.reduceEqDiff, Nat.reduceBEq, beq_self_eq_true, Bool.not_true, Bool.not_false, Bool.and_true, Bool.and_false, Bool.true_and, Bool.false_and, gI_sI, gI_sL, gI_sA, gI_sM, gL_sI, gL_sL, gL_sA, gL_sM, aI_sI, aI_sL, aI_sA, aI_sM, aL_sI, aL_sL, aL_sA, aL_sM, BisBad_0, BisBad_11, BisBad_15, BisBad_16, oi_0, oi_1, oi_m2]; try dsimp only
        apply hB
        dsimp only [rgo, rfd, BisBad, Nat.beq, rwp, rst, lv_args, rlk, rs1, rs2, rdl, rky, rct, rcs, rcd, rno, rsw, Value.category, List.filter, List.take, List.drop, List.reverse, List.reverseAux, List.cons_append, List.nil_append, Option.toList, Int.toNat, Int.reduceToNat, if_pos, if_neg, reduceIte, ↓reduceIte, Nat.reduceAdd, Nat.reduceEqDiff, Nat.reduceBEq, beq_self_eq_true, Bool.not_true, Bool.not_false, Bool.and_true, Bool.and_false, Bool.true_and, Bool.false_and, gI_sI, gI_sL, gI_sA, gI_sM, gL_sI, gL_sL, gL_sA, gL_sM, aI_sI, aI_sL, aI_sA, aI_sM, aL_sI, aL_sL, aL_sA, aL_sM, BisBad_0, BisBad_11, BisBad_15, BisBad_16, oi_0, oi_1, oi_m2]; try dsimp only
        refine ⟨Or.inr rfl, ?_⟩
        exact ⟨_, rfl, by lia, rfl⟩
    next => exact hP.elim
theorem m_isBad (l : Launch) : RMet l 1 79 P_isBad Q_isBad := by
  refine RMet.by BisBad [] roisBad okBisBad ct0 ?_ b_isBad
  · intro As σ hP
    unfold P_isBad at hP
    split at hP
    next => exact Nat.le_of_ble_eq_true rfl
    next => exact hP.elim
set_option maxRecDepth 100000 in
theorem e_isBad (l : Launch) : RMetE l 1 79 P_isBad Q_isBad := by
  refine RMetE.by BisBad [] rfl rfl roisBad okBisBad ctE0 ?_ b_isBad
  · intro As σ hP
    unfold P_isBad at hP
    split at hP
    next => exact Nat.le_of_ble_eq_true rfl
    next => exact hP.elim
def P_paramsOf : RP := fun As σ => match As with
  | [.int m] => 0 ≤ m ∧ m ≤ 11
  | _ => False
def Q_paramsOf : RQ := fun As σ w τ => match As with
  | [.int m] => ∃ r : Int32, w = some (.int r) ∧ ((m = 10 ∧ r = 1) ∨ (m = 11 ∧ r = 0) ∨ (m < 10 ∧ r = aI σ 39 m.toNatClampNeg)) ∧ τ = σ
  | _ => False
set_option maxRecDepth 100000 in
set_option maxHeartbeats 4000000 in
theorem b_paramsOf : Bod BparamsOf [] P_paramsOf Q_paramsOf := by
  · intro As σ hP G hB hW
    unfold P_paramsOf at hP
    split at hP
    next m => 
      unfold Q_paramsOf at hB
      dsimp only at hB
      apply hB
      dsimp only [rgo, rfd, BparamsOf, Nat.beq, rwp, rst, lv_args, rlk, rs1, rs2, rdl, rky, rct, rcs, rcd, rno, rsw, Value.category, List.filter, List.take, List.drop, List.reverse, List.reverseAux, List.cons_append, List.nil_append, Option.toList, Int.toNat, Int.reduceToNat, if_pos, if_neg, reduceIte, ↓reduceIte, Nat.reduceAdd, Nat.reduceEqDiff, Nat.reduceBEq, beq_self_eq_true, Bool.not_true, Bool.not_false, Bool.and_true, Bool.and_false, Bool.true_and, Bool.false_and, gI_sI, gI_sL, gI_sA, gI_sM, gL_sI, gL_sL, gL_sA, gL_sM, aI_sI, aI_sL, aI_sA, aI_sM, aL_sI, aL_sL, aL_sA, aL_sM, BparamsOf_0, BparamsOf_6, BparamsOf_10, BparamsOf_16, BparamsOf_20, BparamsOf_26, oi_0, oi_1, oi_10, oi_11]; try dsimp only
      refine ⟨fun h1 => ?_, fun h1 => ?_⟩
      · apply hB
        dsimp only [rgo, rfd, BparamsOf, Nat.beq, rwp, rst, lv_args, rlk, rs1, rs2, rdl, rky, rct, rcs, rcd, rno, rsw, Value.category, List.filter, List.take, List.drop, List.reverse, List.reverseAux, List.cons_append, List.nil_append, Option.toList, Int.toNat, Int.reduceToNat, if_pos, if_neg, reduceIte, ↓reduceIte, Nat.reduceAdd, Nat.reduceEqDiff, Nat.reduceBEq, beq_self_eq_true, Bool.not_true, Bool.not_false, Bool.and_true, Bool.and_false, Bool.true_and, Bool.false_and, gI_sI, gI_sL, gI_sA, gI_sM, gL_sI, gL_sL, gL_sA, gL_sM, aI_sI, aI_sL, aI_sA, aI_sM, aL_sI, aL_sL, aL_sA, aL_sM, BparamsOf_0, BparamsOf_6, BparamsOf_10, BparamsOf_16, BparamsOf_20, BparamsOf_26, oi_0, oi_1, oi_10, oi_11]; try dsimp only
        refine ⟨fun h2 => ?_, fun h2 => ?_⟩
        · apply hB
          dsimp only [rgo, rfd, BparamsOf, Nat.beq, rwp, rst, lv_args, rlk, rs1, rs2, rdl, rky, rct, rcs, rcd, rno, rsw, Value.category, List.filter, List.take, List.drop, List.reverse, List.reverseAux, List.cons_append, List.nil_append, Option.toList, Int.toNat, Int.reduceToNat, if_pos, if_neg, reduceIte, ↓reduceIte, Nat.reduceAdd, Nat.reduceEqDiff, Nat.reduceBEq, beq_self_eq_true, Bool.not_true, Bool.not_false, Bool.and_true, Bool.and_false, Bool.true_and, Bool.false_and, gI_sI, gI_sL, gI_sA, gI_sM, gL_sI, gL_sL, gL_sA, gL_sM, aI_sI, aI_sL, aI_sA, aI_sM, aL_sI, aL_sL, aL_sA, aL_sM, BparamsOf_0, BparamsOf_6, BparamsOf_10, BparamsOf_16, BparamsOf_20, BparamsOf_26, oi_0, oi_1, oi_10, oi_11]; try dsimp only
          refine ⟨rfl, rfl, (in_39 (by lia) (by lia)), ?_⟩
          apply hB
          dsimp only [rgo, rfd, BparamsOf, Nat.beq, rwp, rst, lv_args, rlk, rs1, rs2, rdl, rky, rct, rcs, rcd, rno, rsw, Value.category, List.filter, List.take, List.drop, List.reverse, List.reverseAux, List.cons_append, List.nil_append, Option.toList, Int.toNat, Int.reduceToNat, if_pos, if_neg, reduceIte, ↓reduceIte, Nat.reduceAdd, Nat.reduceEqDiff, Nat.reduceBEq, beq_self_eq_true, Bool.not_true, Bool.not_false, Bool.and_true, Bool.and_false, Bool.true_and, Bool.false_and, gI_sI, gI_sL, gI_sA, gI_sM, gL_sI, gL_sL, gL_sA, gL_sM, aI_sI, aI_sL, aI_sA, aI_sM, aL_sI, aL_sL, aL_sA, aL_sM, BparamsOf_0, BparamsOf_6, BparamsOf_10, BparamsOf_16, BparamsOf_20, BparamsOf_26, oi_0, oi_1, oi_10, oi_11]; try dsimp only
          refine ⟨trivial, ?_⟩
          exact ⟨_, rfl, by lia, rfl⟩
        · apply hB
          dsimp only [rgo, rfd, BparamsOf, Nat.beq, rwp, rst, lv_args, rlk, rs1, rs2, rdl, rky, rct, rcs, rcd, rno, rsw, Value.category, List.filter, List.take, List.drop, List.reverse, List.reverseAux, List.cons_append, List.nil_append, Option.toList, Int.toNat, Int.reduceToNat, if_pos, if_neg, reduceIte, ↓reduceIte, Nat.reduceAdd, Nat.reduceEqDiff, Nat.reduceBEq, beq_self_eq_true, Bool.not_true, Bool.not_false, Bool.and_true, Bool.and_false, Bool.true_and, Bool.false_and, gI_sI, gI_sL, gI_sA, gI_sM, gL_sI, gL_sL, gL_sA, gL_sM, aI_sI, aI_sL, aI_sA, aI_sM, aL_sI, aL_sL, aL_sA, aL_sM, BparamsOf_0, BparamsOf_6, BparamsOf_10, BparamsOf_16, BparamsOf_20, BparamsOf_26, oi_0, oi_1, oi_10, oi_11]; try dsimp only
          apply hB
          dsimp only [rgo, rfd, BparamsOf, Nat.beq, rwp, rst, lv_args, rlk, rs1, rs2, rdl, rky, rct, rcs, rcd, rno, rsw, Value.category, List.filter, List.take, List.drop, List.reverse, List.reverseAux, List.cons_append, List.nil_append, Option.toList, Int.toNat, Int.reduceToNat, if_pos, if_neg, reduceIte, ↓reduceIte, Nat.reduceAdd, Nat.reduceEqDiff, Nat.reduceBEq, beq_self_eq_true, Bool.not_true, Bool.not_false, Bool.and_true, Bool.and_false, Bool.true_and, Bool.false_and, gI_sI, gI_sL, gI_sA, gI_sM, gL_sI, gL_sL, gL_sA, gL_sM, aI_sI, aI_sL, aI_sA, aI_sM, aL_sI, aL_sL, aL_sA, aL_sM, BparamsOf_0, BparamsOf_6, BparamsOf_10, BparamsOf_16, BparamsOf_20, BparamsOf_26, oi_0, oi_1, oi_10, oi_11]; try dsimp only
          refine ⟨trivial, ?_⟩
          exact ⟨_, rfl, by lia, rfl⟩
      · apply hB
        dsimp only [rgo, rfd, BparamsOf, Nat.beq, rwp, rst, lv_args, rlk, rs1, rs2, rdl, rky, rct, rcs, rcd, rno, rsw, Value.category, List.filter, List.take, List.drop, List.reverse, List.reverseAux, List.cons_append, List.nil_append, Option.toList, Int.toNat, Int.reduceToNat, if_pos, if_neg, reduceIte, ↓reduceIte, Nat.reduceAdd, Nat.reduceEqDiff, Nat.reduceBEq, beq_self_eq_true, Bool.not_true, Bool.not_false, Bool.and_true, Bool.and_false, Bool.true_and, Bool.false_and, gI_sI, gI_sL, gI_sA, gI_sM, gL_sI, gL_sL, gL_sA, gL_sM, aI_sI, aI_sL, aI_sA, aI_sM, aL_sI, aL_sL, aL_sA, aL_sM, BparamsOf_0, BparamsOf_6, BparamsOf_10, BparamsOf_16, BparamsOf_20, BparamsOf_26, oi_0, oi_1, oi_10, oi_11]; try dsimp only
        apply hB
        dsimp only [rgo, rfd, BparamsOf, Nat.beq, rwp, rst, lv_args, rlk, rs1, rs2, rdl, rky, rct, rcs, rcd, rno, rsw, Value.category, List.filter, List.take, List.drop, List.reverse, List.reverseAux, List.cons_append, List.nil_append, Option.toList, Int.toNat, Int.reduceToNat, if_pos, if_neg, reduceIte, ↓reduceIte, Nat.reduceAdd, Nat.reduceEqDiff, Nat.reduceBEq, beq_self_eq_true, Bool.not_true, Bool.not_false, Bool.and_true, Bool.and_false, Bool.true_and, Bool.false_and, gI_sI, gI_sL, gI_sA, gI_sM, gL_sI, gL_sL, gL_sA, gL_sM, aI_sI, aI_sL, aI_sA, aI_sM, aL_sI, aL_sL, aL_sA, aL_sM, BparamsOf_0, BparamsOf_6, BparamsOf_10, BparamsOf_16, BparamsOf_20, BparamsOf_26, oi_0, oi_1, oi_10, oi_11]; try dsimp only
        refine ⟨trivial, ?_⟩
        exact ⟨_, rfl, by lia, rfl⟩
    next => exact hP.elim
theorem m_paramsOf (l : Launch) : RMet l 1 84 P_paramsOf Q_paramsOf := by
  refine RMet.by BparamsOf [] roparamsOf okBparamsOf ct0 ?_ b_paramsOf
  · intro As σ hP
    unfold P_paramsOf at hP
    split at hP
    next => exact Nat.le_of_ble_eq_true rfl
    next => exact hP.elim
set_option maxRecDepth 100000 in
theorem e_paramsOf (l : Launch) : RMetE l 1 84 P_paramsOf Q_paramsOf := by
  refine RMetE.by BparamsOf [] rfl rfl roparamsOf okBparamsOf ctE0 ?_ b_paramsOf
  · intro As σ hP
    unfold P_paramsOf at hP
    split at hP
    next => exact Nat.le_of_ble_eq_true rfl
    next => exact hP.elim
def P_resultOf : RP := fun As σ => match As with
  | [.int m] => 0 ≤ m ∧ m ≤ 11
  | _ => False
def Q_resultOf : RQ := fun As σ w τ => match As with
  | [.int m] => ∃ r : Int32, w = some (.int r) ∧ ((m = 10 ∧ r = 5) ∨ (m = 11 ∧ r = 3) ∨ (m < 10 ∧ r = aI σ 38 m.toNatClampNeg)) ∧ τ = σ
  | _ => False
set_option maxRecDepth 100000 in
set_option maxHeartbeats 4000000 in
theorem b_resultOf : Bod BresultOf [] P_resultOf Q_resultOf := by
  · intro As σ hP G hB hW
    unfold P_resultOf at hP
    split at hP
    next m => 
      unfold Q_resultOf at hB
      dsimp only at hB
      apply hB
      dsimp only [rgo, rfd, BresultOf, Nat.beq, rwp, rst, lv_args, rlk, rs1, rs2, rdl, rky, rct, rcs, rcd, rno, rsw, Value.category, List.filter, List.take, List.drop, List.reverse, List.reverseAux, List.cons_append, List.nil_append, Option.toList, Int.toNat, Int.reduceToNat, if_pos, if_neg, reduceIte, ↓reduceIte, Nat.reduceAdd, Nat.reduceEqDiff, Nat.reduceBEq, beq_self_eq_true, Bool.not_true, Bool.not_false, Bool.and_true, Bool.and_false, Bool.true_and, Bool.false_and, gI_sI, gI_sL, gI_sA, gI_sM, gL_sI, gL_sL, gL_sA, gL_sM, aI_sI, aI_sL, aI_sA, aI_sM, aL_sI, aL_sL, aL_sA, aL_sM, BresultOf_0, BresultOf_6, BresultOf_10, BresultOf_16, BresultOf_20, BresultOf_26, oi_10, oi_11, oi_3, oi_5]; try dsimp only
      refine ⟨fun h1 => ?_, fun h1 => ?_⟩
      · apply hB
        dsimp only [rgo, rfd, BresultOf, Nat.beq, rwp, rst, lv_args, rlk, rs1, rs2, rdl, rky, rct, rcs, rcd, rno, rsw, Value.category, List.filter, List.take, List.drop, List.reverse, List.reverseAux, List.cons_append, List.nil_append, Option.toList, Int.toNat, Int.reduceToNat, if_pos, if_neg, reduceIte, ↓reduceIte, Nat.reduceAdd, Nat.reduceEqDiff, Nat.reduceBEq, beq_self_eq_true, Bool.not_true, Bool.not_false, Bool.and_true, Bool.and_false, Bool.true_and, Bool.false_and, gI_sI, gI_sL, gI_sA, gI_sM, gL_sI, gL_sL, gL_sA, gL_sM, aI_sI, aI_sL, aI_sA, aI_sM, aL_sI, aL_sL, aL_sA, aL_sM, BresultOf_0, BresultOf_6, BresultOf_10, BresultOf_16, BresultOf_20, BresultOf_26, oi_10, oi_11, oi_3, oi_5]; try dsimp only
        refine ⟨fun h2 => ?_, fun h2 => ?_⟩
        · apply hB
          dsimp only [rgo, rfd, BresultOf, Nat.beq, rwp, rst, lv_args, rlk, rs1, rs2, rdl, rky, rct, rcs, rcd, rno, rsw, Value.category, List.filter, List.take, List.drop, List.reverse, List.reverseAux, List.cons_append, List.nil_append, Option.toList, Int.toNat, Int.reduceToNat, if_pos, if_neg, reduceIte, ↓reduceIte, Nat.reduceAdd, Nat.reduceEqDiff, Nat.reduceBEq, beq_self_eq_true, Bool.not_true, Bool.not_false, Bool.and_true, Bool.and_false, Bool.true_and, Bool.false_and, gI_sI, gI_sL, gI_sA, gI_sM, gL_sI, gL_sL, gL_sA, gL_sM, aI_sI, aI_sL, aI_sA, aI_sM, aL_sI, aL_sL, aL_sA, aL_sM, BresultOf_0, BresultOf_6, BresultOf_10, BresultOf_16, BresultOf_20, BresultOf_26, oi_10, oi_11, oi_3, oi_5]; try dsimp only
          refine ⟨rfl, rfl, (in_38 (by lia) (by lia)), ?_⟩
          apply hB
          dsimp only [rgo, rfd, BresultOf, Nat.beq, rwp, rst, lv_args, rlk, rs1, rs2, rdl, rky, rct, rcs, rcd, rno, rsw, Value.category, List.filter, List.take, List.drop, List.reverse, List.reverseAux, List.cons_append, List.nil_append, Option.toList, Int.toNat, Int.reduceToNat, if_pos, if_neg, reduceIte, ↓reduceIte, Nat.reduceAdd, Nat.reduceEqDiff, Nat.reduceBEq, beq_self_eq_true, Bool.not_true, Bool.not_false, Bool.and_true, Bool.and_false, Bool.true_and, Bool.false_and, gI_sI, gI_sL, gI_sA, gI_sM, gL_sI, gL_sL, gL_sA, gL_sM, aI_sI, aI_sL, aI_sA, aI_sM, aL_sI, aL_sL, aL_sA, aL_sM, BresultOf_0, BresultOf_6, BresultOf_10, BresultOf_16, BresultOf_20, BresultOf_26, oi_10, oi_11, oi_3, oi_5]; try dsimp only
          refine ⟨trivial, ?_⟩
          exact ⟨_, rfl, by lia, rfl⟩
        · apply hB
          dsimp only [rgo, rfd, BresultOf, Nat.beq, rwp, rst, lv_args, rlk, rs1, rs2, rdl, rky, rct, rcs, rcd, rno, rsw, Value.category, List.filter, List.take, List.drop, List.reverse, List.reverseAux, List.cons_append, List.nil_append, Option.toList, Int.toNat, Int.reduceToNat, if_pos, if_neg, reduceIte, ↓reduceIte, Nat.reduceAdd, Nat.reduceEqDiff, Nat.reduceBEq, beq_self_eq_true, Bool.not_true, Bool.not_false, Bool.and_true, Bool.and_false, Bool.true_and, Bool.false_and, gI_sI, gI_sL, gI_sA, gI_sM, gL_sI, gL_sL, gL_sA, gL_sM, aI_sI, aI_sL, aI_sA, aI_sM, aL_sI, aL_sL, aL_sA, aL_sM, BresultOf_0, BresultOf_6, BresultOf_10, BresultOf_16, BresultOf_20, BresultOf_26, oi_10, oi_11, oi_3, oi_5]; try dsimp only
          apply hB
          dsimp only [rgo, rfd, BresultOf, Nat.beq, rwp, rst, lv_args, rlk, rs1, rs2, rdl, rky, rct, rcs, rcd, rno, rsw, Value.category, List.filter, List.take, List.drop, List.reverse, List.reverseAux, List.cons_append, List.nil_append, Option.toList, Int.toNat, Int.reduceToNat, if_pos, if_neg, reduceIte, ↓reduceIte, Nat.reduceAdd, Nat.reduceEqDiff, Nat.reduceBEq, beq_self_eq_true, Bool.not_true, Bool.not_false, Bool.and_true, Bool.and_false, Bool.true_and, Bool.false_and, gI_sI, gI_sL, gI_sA, gI_sM, gL_sI, gL_sL, gL_sA, gL_sM, aI_sI, aI_sL, aI_sA, aI_sM, aL_sI, aL_sL, aL_sA, aL_sM, BresultOf_0, BresultOf_6, BresultOf_10, BresultOf_16, BresultOf_20, BresultOf_26, oi_10, oi_11, oi_3, oi_5]; try dsimp only
          refine ⟨trivial, ?_⟩
          exact ⟨_, rfl, by lia, rfl⟩
      · apply hB
        dsimp only [rgo, rfd, BresultOf, Nat.beq, rwp, rst, lv_args, rlk, rs1, rs2, rdl, rky, rct, rcs, rcd, rno, rsw, Value.category, List.filter, List.take, List.drop, List.reverse, List.reverseAux, List.cons_append, List.nil_append, Option.toList, Int.toNat, Int.reduceToNat, if_pos, if_neg, reduceIte, ↓reduceIte, Nat.reduceAdd, Nat.reduceEqDiff, Nat.reduceBEq, beq_self_eq_true, Bool.not_true, Bool.not_false, Bool.and_true, Bool.and_false, Bool.true_and, Bool.false_and, gI_sI, gI_sL, gI_sA, gI_sM, gL_sI, gL_sL, gL_sA, gL_sM, aI_sI, aI_sL, aI_sA, aI_sM, aL_sI, aL_sL, aL_sA, aL_sM, BresultOf_0, BresultOf_6, BresultOf_10, BresultOf_16, BresultOf_20, BresultOf_26, oi_10, oi_11, oi_3, oi_5]; try dsimp only
        apply hB
        dsimp only [rgo, rfd, BresultOf, Nat.beq, rwp, rst, lv_args, rlk, rs1, rs2, rdl, rky, rct, rcs, rcd, rno, rsw, Value.category, List.filter, List.take, List.drop, List.reverse, List.reverseAux, List.cons_append, List.nil_append, Option.toList, Int.toNat, Int.reduceToNat, if_pos, if_neg, reduceIte, ↓reduceIte, Nat.reduceAdd, Nat.reduceEqDiff, Nat.reduceBEq, beq_self_eq_true, Bool.not_true, Bool.not_false, Bool.and_true, Bool.and_false, Bool.true_and, Bool.false_and, gI_sI, gI_sL, gI_sA, gI_sM, gL_sI, gL_sL, gL_sA, gL_sM, aI_sI, aI_sL, aI_sA, aI_sM, aL_sI, aL_sL, aL_sA, aL_sM, BresultOf_0, BresultOf_6, BresultOf_10, BresultOf_16, BresultOf_20, BresultOf_26, oi_10, oi_11, oi_3, oi_5]; try dsimp only
        refine ⟨trivial, ?_⟩
        exact ⟨_, rfl, by lia, rfl⟩
    next => exact hP.elim
theorem m_resultOf (l : Launch) : RMet l 1 85 P_resultOf Q_resultOf := by
  refine RMet.by BresultOf [] roresultOf okBresultOf ct0 ?_ b_resultOf
  · intro As σ hP
    unfold P_resultOf at hP
    split at hP
    next => exact Nat.le_of_ble_eq_true rfl
    next => exact hP.elim
set_option maxRecDepth 100000 in
theorem e_resultOf (l : Launch) : RMetE l 1 85 P_resultOf Q_resultOf := by
  refine RMetE.by BresultOf [] rfl rfl roresultOf okBresultOf ctE0 ?_ b_resultOf
  · intro As σ hP
    unfold P_resultOf at hP
    split at hP
    next => exact Nat.le_of_ble_eq_true rfl
    next => exact hP.elim
def P_isMethod : RP := fun As σ => match As with
  | [.int m] => True
  | _ => False
def Q_isMethod : RQ := fun As σ w τ => match As with
  | [.int m] => ∃ r : Int32, w = some (.int r) ∧ (r = 0 ∨ (r = 1 ∧ (m < (gI σ 36) ∨ 10 ≤ m))) ∧ τ = σ
  | _ => False
set_option maxRecDepth 100000 in
set_option maxHeartbeats 4000000 in
theorem b_isMethod : Bod BisMethod [] P_isMethod Q_isMethod := by
  · intro As σ hP G hB hW
    unfold P_isMethod at hP
    split at hP
    next m => 
      unfold Q_isMethod at hB
      dsimp only at hB
      apply hB
      dsimp only [rgo, rfd, BisMethod, Nat.beq, rwp, rst, lv_args, rlk, rs1, rs2, rdl, rky, rct, rcs, rcd, rno, rsw, Value.category, List.filter, List.take, List.drop, List.reverse, List.reverseAux, List.cons_append, List.nil_append, Option.toList, Int.toNat, Int.reduceToNat, if_pos, if_neg, reduceIte, ↓reduceIte, Nat.reduceAdd, Nat.reduceEqDiff, Nat.reduceBEq, beq_self_eq_true, Bool.not_true, Bool.not_false, Bool.and_true, Bool.and_false, Bool.true_and, Bool.false_and, gI_sI, gI_sL, gI_sA, gI_sM, gL_sI, gL_sL, gL_sA, gL_sM, aI_sI, aI_sL, aI_sA, aI_sM, aL_sI, aL_sL, aL_sA, aL_sM, BisMethod_0, BisMethod_8, BisMethod_14, BisMethod_18, BisMethod_19, oi_0, oi_1, oi_10]; try dsimp only
      refine ⟨rfl, fun h1 => ?_, fun h1 => ?_⟩
      · apply hB
        dsimp only [rgo, rfd, BisMethod, Nat.beq, rwp, rst, lv_args, rlk, rs1, rs2, rdl, rky, rct, rcs, rcd, rno, rsw, Value.category, List.filter, List.take, List.drop, List.reverse, List.reverseAux, List.cons_append, List.nil_append, Option.toList, Int.toNat, Int.reduceToNat, if_pos, if_neg, reduceIte, ↓reduceIte, Nat.reduceAdd, Nat.reduceEqDiff, Nat.reduceBEq, beq_self_eq_true, Bool.not_true, Bool.not_false, Bool.and_true, Bool.and_false, Bool.true_and, Bool.false_and, gI_sI, gI_sL, gI_sA, gI_sM, gL_sI, gL_sL, gL_sA, gL_sM, aI_sI, aI_sL, aI_sA, aI_sM, aL_sI, aL_sL, aL_sA, aL_sM, BisMethod_0, BisMethod_8, BisMethod_14, BisMethod_18, BisMethod_19, oi_0, oi_1, oi_10]; try dsimp only
        apply hB
        dsimp only [rgo, rfd, BisMethod, Nat.beq, rwp, rst, lv_args, rlk, rs1, rs2, rdl, rky, rct, rcs, rcd, rno, rsw, Value.category, List.filter, List.take, List.drop, List.reverse, List.reverseAux, List.cons_append, List.nil_append, Option.toList, Int.toNat, Int.reduceToNat, if_pos, if_neg, reduceIte, ↓reduceIte, Nat.reduceAdd, Nat.reduceEqDiff, Nat.reduceBEq, beq_self_eq_true, Bool.not_true, Bool.not_false, Bool.and_true, Bool.and_false, Bool.true_and, Bool.false_and, gI_sI, gI_sL, gI_sA, gI_sM, gL_sI, gL_sL, gL_sA, gL_sM, aI_sI, aI_sL, aI_sA, aI_sM, aL_sI, aL_sL, aL_sA, aL_sM, BisMethod_0, BisMethod_8, BisMethod_14, BisMethod_18, BisMethod_19, oi_0, oi_1, oi_10]; try dsimp only
        refine ⟨Or.inr rfl, ?_⟩
        exact ⟨_, rfl, Or.inr ⟨rfl, by lia⟩, rfl⟩
      · apply hB
        dsimp only [rgo, rfd, BisMethod, Nat.beq, rwp, rst, lv_args, rlk, rs1, rs2, rdl, rky, rct, rcs, rcd, rno, rsw, Value.category, List.filter, List.take, List.drop, List.reverse, List.reverseAux, List.cons_append, List.nil_append, Option.toList, Int.toNat, Int.reduceToNat, if_pos, if_neg, reduceIte, ↓reduceIte, Nat.reduceAdd, Nat.reduceEqDiff, Nat.reduceBEq, beq_self_eq_true, Bool.not_true, Bool.not_false, Bool.and_true, Bool.and_false, Bool.true_and, Bool.false_and, gI_sI, gI_sL, gI_sA, gI_sM, gL_sI, gL_sL, gL_sA, gL_sM, aI_sI, aI_sL, aI_sA, aI_sM, aL_sI, aL_sL, aL_sA, aL_sM, BisMethod_0, BisMethod_8, BisMethod_14, BisMethod_18, BisMethod_19, oi_0, oi_1, oi_10]; try dsimp only
        refine ⟨fun h2 => ?_, fun h2 => ?_⟩
        · apply hB
          dsimp only [rgo, rfd, BisMethod, Nat.beq, rwp, rst, lv_args, rlk, rs1, rs2, rdl, rky, rct, rcs, rcd, rno, rsw, Value.category, List.filter, List.take, List.drop, List.reverse, List.reverseAux, List.cons_append, List.nil_append, Option.toList, Int.toNat, Int.reduceToNat, if_pos, if_neg, reduceIte, ↓reduceIte, Nat.reduceAdd, Nat.reduceEqDiff, Nat.reduceBEq, beq_self_eq_true, Bool.not_true, Bool.not_false, Bool.and_true, Bool.and_false, Bool.true_and, Bool.false_and, gI_sI, gI_sL, gI_sA, gI_sM, gL_sI, gL_sL, gL_sA, gL_sM, aI_sI, aI_sL, aI_sA, aI_sM, aL_sI, aL_sL, aL_sA, aL_sM, BisMethod_0, BisMethod_8, BisMethod_14, BisMethod_18, BisMethod_19, oi_0, oi_1, oi_10]; try dsimp only
          apply hB
          dsimp only [rgo, rfd, BisMethod, Nat.beq, rwp, rst, lv_args, rlk, rs1, rs2, rdl, rky, rct, rcs, rcd, rno, rsw, Value.category, List.filter, List.take, List.drop, List.reverse, List.reverseAux, List.cons_append, List.nil_append, Option.toList, Int.toNat, Int.reduceToNat, if_pos, if_neg, reduceIte, ↓reduceIte, Nat.reduceAdd, Nat.reduceEqDiff, Nat.reduceBEq, beq_self_eq_true, Bool.not_true, Bool.not_false, Bool.and_true, Bool.and_false, Bool.true_and, Bool.false_and, gI_sI, gI_sL, gI_sA, gI_sM, gL_sI, gL_sL, gL_sA, gL_sM, aI_sI, aI_sL, aI_sA, aI_sM, aL_sI, aL_sL, aL_sA, aL_sM, BisMethod_0, BisMethod_8, BisMethod_14, BisMethod_18, BisMethod_19, oi_0, oi_1, oi_10]; try dsimp only
          refine ⟨Or.inl rfl, ?_⟩
          exact ⟨_, rfl, Or.inl rfl, rfl⟩
        · apply hB
          dsimp only [rgo, rfd, BisMethod, Nat.beq, rwp, rst, lv_args, rlk, rs1, rs2, rdl, rky, rct, rcs, rcd, rno, rsw, Value.category, List.filter, List.take, List.drop, List.reverse, List.reverseAux, List.cons_append, List.nil_append, Option.toList, Int.toNat, Int.reduceToNat, if_pos, if_neg, reduceIte, ↓reduceIte, Nat.reduceAdd, Nat.reduceEqDiff, Nat.reduceBEq, beq_self_eq_true, Bool.not_true, Bool.not_false, Bool.and_true, Bool.and_false, Bool.true_and, Bool.false_and, gI_sI, gI_sL, gI_sA, gI_sM, gL_sI, gL_sL, gL_sA, gL_sM, aI_sI, aI_sL, aI_sA, aI_sM, aL_sI, aL_sL, aL_sA, aL_sM, BisMethod_0, BisMethod_8, BisMethod_14, BisMethod_18, BisMethod_19, oi_0, oi_1, oi_10]; try dsimp only
          apply hB
          dsimp only [rgo, rfd, BisMethod, Nat.beq, rwp, rst, lv_args, rlk, rs1, rs2, rdl, rky, rct, rcs, rcd, rno, rsw, Value.category, List.filter, List.take, List.drop, List.reverse, List.reverseAux, List.cons_append, List.nil_append, Option.toList, Int.toNat, Int.reduceToNat, if_pos, if_neg, reduceIte, ↓reduceIte, Nat.reduceAdd, Nat.reduceEqDiff, Nat.reduceBEq, beq_self_eq_true, Bool.not_true, Bool.not_false, Bool.and_true, Bool.and_false, Bool.true_and, Bool.false_and, gI_sI, gI_sL, gI_sA, gI_sM, gL_sI, gL_sL, gL_sA, gL_sM, aI_sI, aI_sL, aI_sA, aI_sM, aL_sI, aL_sL, aL_sA, aL_sM, BisMethod_0, BisMethod_8, BisMethod_14, BisMethod_18, BisMethod_19, oi_0, oi_1, oi_10]; try dsimp only
          refine ⟨Or.inr rfl, ?_⟩
          exact ⟨_, rfl, Or.inr ⟨rfl, by lia⟩, rfl⟩
    next => exact hP.elim
theorem m_isMethod (l : Launch) : RMet l 1 103 P_isMethod Q_isMethod := by
  refine RMet.by BisMethod [] roisMethod okBisMethod ct0 ?_ b_isMethod
  · intro As σ hP
    unfold P_isMethod at hP
    split at hP
    next => exact Nat.le_of_ble_eq_true rfl
    next => exact hP.elim
set_option maxRecDepth 100000 in
theorem e_isMethod (l : Launch) : RMetE l 1 103 P_isMethod Q_isMethod := by
  refine RMetE.by BisMethod [] rfl rfl roisMethod okBisMethod ctE0 ?_ b_isMethod
  · intro As σ hP
    unfold P_isMethod at hP
    split at hP
    next => exact Nat.le_of_ble_eq_true rfl
    next => exact hP.elim
def P_find : RP := fun As σ => match As with
  | [.int t] => PJ σ ∧ (0 ≤ t ∧ t ≤ 2000)
  | _ => False
def Q_find : RQ := fun As σ w τ => match As with
  | [.int t] => ∃ r : Int32, w = some (.int r) ∧ (r = -2 ∨ (0 ≤ r ∧ r < (gI σ 42))) ∧ τ = σ
  | _ => False
set_option maxRecDepth 100000 in
set_option maxHeartbeats 4000000 in
theorem b_find : Bod Bfind [(63, P_sameName, Q_sameName)] P_find Q_find := by
  · intro As σ hP G hB hW
    unfold P_find at hP
    split at hP
    next t => 
      unfold Q_find at hB
      dsimp only at hB
      obtain ⟨⟨fd, s, kk, jj, hPI⟩, ht⟩ := hP
      have n42 : 0 ≤ gI σ 42 ∧ gI σ 42 ≤ 60 := hPI.nums.2.2.2.2.2.2.1
      have hvt : ∀ f : Int32, 0 ≤ f → f < gI σ 42 → 0 ≤ aI σ 43 f.toNatClampNeg ∧ aI σ 43 f.toNatClampNeg ≤ 500 := fun f h0 h1 => hPI.2.2.2.2.2.2.2.1.2 (nT f) (nT_lt h0 h1)
      have loop : ∀ n : Nat, ∀ f : Int32, nT (f + 1) = n → (-1 ≤ f ∧ f < gI σ 42) → G 7 [(0, .ref 1000), (1, .int t), (2, .int f)] [] σ := by
        intro n
        induction n using Nat.strongRecOn with
        | ind n loop =>
          intro f hn hf
          apply hB
          dsimp only [rgo, rfd, Bfind, Nat.beq, rwp, rst, lv_args, rlk, rs1, rs2, rdl, rky, rct, rcs, rcd, rno, rsw, Value.category, List.filter, List.take, List.drop, List.reverse, List.reverseAux, List.cons_append, List.nil_append, Option.toList, Int.toNat, Int.reduceToNat, if_pos, if_neg, reduceIte, ↓reduceIte, Nat.reduceAdd, Nat.reduceEqDiff, Nat.reduceBEq, beq_self_eq_true, Bool.not_true, Bool.not_false, Bool.and_true, Bool.and_false, Bool.true_and, Bool.false_and, gI_sI, gI_sL, gI_sA, gI_sM, gL_sI, gL_sL, gL_sA, gL_sM, aI_sI, aI_sL, aI_sA, aI_sM, aL_sI, aL_sL, aL_sA, aL_sM, Bfind_0, Bfind_7, Bfind_11, Bfind_24, Bfind_34, Bfind_44, Bfind_58, Bfind_60, Bfind_66, oi_1, oi_m1, oi_m2, P_sameName]; try dsimp only
          refine ⟨fun h1 => ?_, fun h1 => ?_⟩
          · apply hB
            dsimp only [rgo, rfd, Bfind, Nat.beq, rwp, rst, lv_args, rlk, rs1, rs2, rdl, rky, rct, rcs, rcd, rno, rsw, Value.category, List.filter, List.take, List.drop, List.reverse, List.reverseAux, List.cons_append, List.nil_append, Option.toList, Int.toNat, Int.reduceToNat, if_pos, if_neg, reduceIte, ↓reduceIte, Nat.reduceAdd, Nat.reduceEqDiff, Nat.reduceBEq, beq_self_eq_true, Bool.not_true, Bool.not_false, Bool.and_true, Bool.and_false, Bool.true_and, Bool.false_and, gI_sI, gI_sL, gI_sA, gI_sM, gL_sI, gL_sL, gL_sA, gL_sM, aI_sI, aI_sL, aI_sA, aI_sM, aL_sI, aL_sL, aL_sA, aL_sM, Bfind_0, Bfind_7, Bfind_11, Bfind_24, Bfind_34, Bfind_44, Bfind_58, Bfind_60, Bfind_66, oi_1, oi_m1, oi_m2, P_sameName]; try dsimp only
            refine ⟨trivial, ?_⟩
            exact ⟨_, rfl, Or.inl rfl, rfl⟩
          · have hvv := hvt f (by lia) (by lia)
            apply hB
            dsimp only [rgo, rfd, Bfind, Nat.beq, rwp, rst, lv_args, rlk, rs1, rs2, rdl, rky, rct, rcs, rcd, rno, rsw, Value.category, List.filter, List.take, List.drop, List.reverse, List.reverseAux, List.cons_append, List.nil_append, Option.toList, Int.toNat, Int.reduceToNat, if_pos, if_neg, reduceIte, ↓reduceIte, Nat.reduceAdd, Nat.reduceEqDiff, Nat.reduceBEq, beq_self_eq_true, Bool.not_true, Bool.not_false, Bool.and_true, Bool.and_false, Bool.true_and, Bool.false_and, gI_sI, gI_sL, gI_sA, gI_sM, gL_sI, gL_sL, gL_sA, gL_sM, aI_sI, aI_sL, aI_sA, aI_sM, aL_sI, aL_sL, aL_sA, aL_sM, Bfind_0, Bfind_7, Bfind_11, Bfind_24, Bfind_34, Bfind_44, Bfind_58, Bfind_60, Bfind_66, oi_1, oi_m1, oi_m2, P_sameName]; try dsimp only
            refine ⟨rfl, rfl, (in_46 (by lia) (by lia)), rfl, fun h2 => ?_, fun h2 => ?_⟩
            · apply hB
              dsimp only [rgo, rfd, Bfind, Nat.beq, rwp, rst, lv_args, rlk, rs1, rs2, rdl, rky, rct, rcs, rcd, rno, rsw, Value.category, List.filter, List.take, List.drop, List.reverse, List.reverseAux, List.cons_append, List.nil_append, Option.toList, Int.toNat, Int.reduceToNat, if_pos, if_neg, reduceIte, ↓reduceIte, Nat.reduceAdd, Nat.reduceEqDiff, Nat.reduceBEq, beq_self_eq_true, Bool.not_true, Bool.not_false, Bool.and_true, Bool.and_false, Bool.true_and, Bool.false_and, gI_sI, gI_sL, gI_sA, gI_sM, gL_sI, gL_sL, gL_sA, gL_sM, aI_sI, aI_sL, aI_sA, aI_sM, aL_sI, aL_sL, aL_sA, aL_sM, Bfind_0, Bfind_7, Bfind_11, Bfind_24, Bfind_34, Bfind_44, Bfind_58, Bfind_60, Bfind_66, oi_1, oi_m1, oi_m2, P_sameName]; try dsimp only
              refine hW 7 [(0, .ref 1000), (1, .int t), (2, .int (f + -1))] _ _ _ (by simp) (loop _ ?_ (f + -1) rfl ⟨by lia, by lia⟩)
              exact mdn hn (by lia) (by lia)
            · apply hB
              dsimp only [rgo, rfd, Bfind, Nat.beq, rwp, rst, lv_args, rlk, rs1, rs2, rdl, rky, rct, rcs, rcd, rno, rsw, Value.category, List.filter, List.take, List.drop, List.reverse, List.reverseAux, List.cons_append, List.nil_append, Option.toList, Int.toNat, Int.reduceToNat, if_pos, if_neg, reduceIte, ↓reduceIte, Nat.reduceAdd, Nat.reduceEqDiff, Nat.reduceBEq, beq_self_eq_true, Bool.not_true, Bool.not_false, Bool.and_true, Bool.and_false, Bool.true_and, Bool.false_and, gI_sI, gI_sL, gI_sA, gI_sM, gL_sI, gL_sL, gL_sA, gL_sM, aI_sI, aI_sL, aI_sA, aI_sM, aL_sI, aL_sL, aL_sA, aL_sM, Bfind_0, Bfind_7, Bfind_11, Bfind_24, Bfind_34, Bfind_44, Bfind_58, Bfind_60, Bfind_66, oi_1, oi_m1, oi_m2, P_sameName]; try dsimp only
              refine ⟨rfl, rfl, (in_43 (by lia) (by lia)), fun h3 => ?_, fun h3 => ?_⟩
              · apply hB
                dsimp only [rgo, rfd, Bfind, Nat.beq, rwp, rst, lv_args, rlk, rs1, rs2, rdl, rky, rct, rcs, rcd, rno, rsw, Value.category, List.filter, List.take, List.drop, List.reverse, List.reverseAux, List.cons_append, List.nil_append, Option.toList, Int.toNat, Int.reduceToNat, if_pos, if_neg, reduceIte, ↓reduceIte, Nat.reduceAdd, Nat.reduceEqDiff, Nat.reduceBEq, beq_self_eq_true, Bool.not_true, Bool.not_false, Bool.and_true, Bool.and_false, Bool.true_and, Bool.false_and, gI_sI, gI_sL, gI_sA, gI_sM, gL_sI, gL_sL, gL_sA, gL_sM, aI_sI, aI_sL, aI_sA, aI_sM, aL_sI, aL_sL, aL_sA, aL_sM, Bfind_0, Bfind_7, Bfind_11, Bfind_24, Bfind_34, Bfind_44, Bfind_58, Bfind_60, Bfind_66, oi_1, oi_m1, oi_m2, P_sameName]; try dsimp only
                refine hW 7 [(0, .ref 1000), (1, .int t), (2, .int (f + -1))] _ _ _ (by simp) (loop _ ?_ (f + -1) rfl ⟨by lia, by lia⟩)
                exact mdn hn (by lia) (by lia)
              · apply hB
                dsimp only [rgo, rfd, Bfind, Nat.beq, rwp, rst, lv_args, rlk, rs1, rs2, rdl, rky, rct, rcs, rcd, rno, rsw, Value.category, List.filter, List.take, List.drop, List.reverse, List.reverseAux, List.cons_append, List.nil_append, Option.toList, Int.toNat, Int.reduceToNat, if_pos, if_neg, reduceIte, ↓reduceIte, Nat.reduceAdd, Nat.reduceEqDiff, Nat.reduceBEq, beq_self_eq_true, Bool.not_true, Bool.not_false, Bool.and_true, Bool.and_false, Bool.true_and, Bool.false_and, gI_sI, gI_sL, gI_sA, gI_sM, gL_sI, gL_sL, gL_sA, gL_sM, aI_sI, aI_sL, aI_sA, aI_sM, aL_sI, aL_sL, aL_sA, aL_sM, Bfind_0, Bfind_7, Bfind_11, Bfind_24, Bfind_34, Bfind_44, Bfind_58, Bfind_60, Bfind_66, oi_1, oi_m1, oi_m2, P_sameName]; try dsimp only
                refine ⟨rfl, rfl, (in_48 (by lia) (by lia)), fun h4 => ?_, fun h4 => ?_⟩
                · apply hB
                  dsimp only [rgo, rfd, Bfind, Nat.beq, rwp, rst, lv_args, rlk, rs1, rs2, rdl, rky, rct, rcs, rcd, rno, rsw, Value.category, List.filter, List.take, List.drop, List.reverse, List.reverseAux, List.cons_append, List.nil_append, Option.toList, Int.toNat, Int.reduceToNat, if_pos, if_neg, reduceIte, ↓reduceIte, Nat.reduceAdd, Nat.reduceEqDiff, Nat.reduceBEq, beq_self_eq_true, Bool.not_true, Bool.not_false, Bool.and_true, Bool.and_false, Bool.true_and, Bool.false_and, gI_sI, gI_sL, gI_sA, gI_sM, gL_sI, gL_sL, gL_sA, gL_sM, aI_sI, aI_sL, aI_sA, aI_sM, aL_sI, aL_sL, aL_sA, aL_sM, Bfind_0, Bfind_7, Bfind_11, Bfind_24, Bfind_34, Bfind_44, Bfind_58, Bfind_60, Bfind_66, oi_1, oi_m1, oi_m2, P_sameName]; try dsimp only
                  refine hW 7 [(0, .ref 1000), (1, .int t), (2, .int (f + -1))] _ _ _ (by simp) (loop _ ?_ (f + -1) rfl ⟨by lia, by lia⟩)
                  exact mdn hn (by lia) (by lia)
                · apply hB
                  dsimp only [rgo, rfd, Bfind, Nat.beq, rwp, rst, lv_args, rlk, rs1, rs2, rdl, rky, rct, rcs, rcd, rno, rsw, Value.category, List.filter, List.take, List.drop, List.reverse, List.reverseAux, List.cons_append, List.nil_append, Option.toList, Int.toNat, Int.reduceToNat, if_pos, if_neg, reduceIte, ↓reduceIte, Nat.reduceAdd, Nat.reduceEqDiff, Nat.reduceBEq, beq_self_eq_true, Bool.not_true, Bool.not_false, Bool.and_true, Bool.and_false, Bool.true_and, Bool.false_and, gI_sI, gI_sL, gI_sA, gI_sM, gL_sI, gL_sL, gL_sA, gL_sM, aI_sI, aI_sL, aI_sA, aI_sM, aL_sI, aL_sL, aL_sA, aL_sM, Bfind_0, Bfind_7, Bfind_11, Bfind_24, Bfind_34, Bfind_44, Bfind_58, Bfind_60, Bfind_66, oi_1, oi_m1, oi_m2, P_sameName]; try dsimp only
                  refine ⟨rfl, rfl, (in_43 (by lia) (by lia)), rfl, (by decide), (⟨⟨by lia, by lia⟩, by lia, by lia⟩), fun w5 τ5 hq5 => ?_⟩
                  obtain ⟨r5, rfl, hr5, e5⟩ := hq5
                  obtain rfl := e5.symm
                  rcases hr5 with rfl | rfl
                  · dsimp only [Option.toList, List.cons_append, List.nil_append, Nat.beq, gI_sI, gI_sL, gI_sA, gI_sM, gL_sI, gL_sL, gL_sA, gL_sM, aI_sI, aI_sL, aI_sA, aI_sM, aL_sI, aL_sL, aL_sA, aL_sM]
                    refine ⟨fun h6 => ?_, fun h6 => absurd h6 (by decide)⟩
                    clear h6
                    apply hB
                    dsimp only [rgo, rfd, Bfind, Nat.beq, rwp, rst, lv_args, rlk, rs1, rs2, rdl, rky, rct, rcs, rcd, rno, rsw, Value.category, List.filter, List.take, List.drop, List.reverse, List.reverseAux, List.cons_append, List.nil_append, Option.toList, Int.toNat, Int.reduceToNat, if_pos, if_neg, reduceIte, ↓reduceIte, Nat.reduceAdd, Nat.reduceEqDiff, Nat.reduceBEq, beq_self_eq_true, Bool.not_true, Bool.not_false, Bool.and_true, Bool.and_false, Bool.true_and, Bool.false_and, gI_sI, gI_sL, gI_sA, gI_sM, gL_sI, gL_sL, gL_sA, gL_sM, aI_sI, aI_sL, aI_sA, aI_sM, aL_sI, aL_sL, aL_sA, aL_sM, Bfind_0, Bfind_7, Bfind_11, Bfind_24, Bfind_34, Bfind_44, Bfind_58, Bfind_60, Bfind_66, oi_1, oi_m1, oi_m2, P_sameName]; try dsimp only
                    refine hW 7 [(0, .ref 1000), (1, .int t), (2, .int (f + -1))] _ _ _ (by simp) (loop _ ?_ (f + -1) rfl ⟨by lia, by lia⟩)
                    exact mdn hn (by lia) (by lia)
                  · dsimp only [Option.toList, List.cons_append, List.nil_append, Nat.beq, gI_sI, gI_sL, gI_sA, gI_sM, gL_sI, gL_sL, gL_sA, gL_sM, aI_sI, aI_sL, aI_sA, aI_sM, aL_sI, aL_sL, aL_sA, aL_sM]
                    refine ⟨fun h7 => absurd h7 (by decide), fun h7 => ?_⟩
                    clear h7
                    apply hB
                    dsimp only [rgo, rfd, Bfind, Nat.beq, rwp, rst, lv_args, rlk, rs1, rs2, rdl, rky, rct, rcs, rcd, rno, rsw, Value.category, List.filter, List.take, List.drop, List.reverse, List.reverseAux, List.cons_append, List.nil_append, Option.toList, Int.toNat, Int.reduceToNat, if_pos, if_neg, reduceIte, ↓reduceIte, Nat.reduceAdd, Nat.reduceEqDiff, Nat.reduceBEq, beq_self_eq_true, Bool.not_true, Bool.not_false, Bool.and_true, Bool.and_false, Bool.true_and, Bool.false_and, gI_sI, gI_sL, gI_sA, gI_sM, gL_sI, gL_sL, gL_sA, gL_sM, aI_sI, aI_sL, aI_sA, aI_sM, aL_sI, aL_sL, aL_sA, aL_sM, Bfind_0, Bfind_7, Bfind_11, Bfind_24, Bfind_34, Bfind_44, Bfind_58, Bfind_60, Bfind_66, oi_1, oi_m1, oi_m2, P_sameName]; try dsimp only
                    refine ⟨trivial, ?_⟩
                    exact ⟨_, rfl, Or.inr ⟨by lia, by lia⟩, rfl⟩
      apply hB
      dsimp only [rgo, rfd, Bfind, Nat.beq, rwp, rst, lv_args, rlk, rs1, rs2, rdl, rky, rct, rcs, rcd, rno, rsw, Value.category, List.filter, List.take, List.drop, List.reverse, List.reverseAux, List.cons_append, List.nil_append, Option.toList, Int.toNat, Int.reduceToNat, if_pos, if_neg, reduceIte, ↓reduceIte, Nat.reduceAdd, Nat.reduceEqDiff, Nat.reduceBEq, beq_self_eq_true, Bool.not_true, Bool.not_false, Bool.and_true, Bool.and_false, Bool.true_and, Bool.false_and, gI_sI, gI_sL, gI_sA, gI_sM, gL_sI, gL_sL, gL_sA, gL_sM, aI_sI, aI_sL, aI_sA, aI_sM, aL_sI, aL_sL, aL_sA, aL_sM, Bfind_0, Bfind_7, Bfind_11, Bfind_24, Bfind_34, Bfind_44, Bfind_58, Bfind_60, Bfind_66, oi_1, oi_m1, oi_m2, P_sameName]; try dsimp only
      refine ⟨rfl, ?_⟩
      exact hW 7 [(0, .ref 1000), (1, .int t), (2, .int (gI σ 42 - 1))] _ _ _ (by simp [rdl, rky]) (loop _ _ rfl ⟨by lia, by lia⟩)
    next => exact hP.elim
theorem m_find (l : Launch) : RMet l 2 71 P_find Q_find := by
  refine RMet.by Bfind [(63, P_sameName, Q_sameName)] rofind okBfind (ctc (m_sameName l) (by decide) ct0) ?_ b_find
  · intro As σ hP
    unfold P_find at hP
    split at hP
    next => exact Nat.le_of_ble_eq_true rfl
    next => exact hP.elim
set_option maxRecDepth 100000 in
theorem e_find (l : Launch) : RMetE l 2 71 P_find Q_find := by
  refine RMetE.by Bfind [(63, P_sameName, Q_sameName)] rfl rfl rofind okBfind (ctEc (e_sameName l) (by decide) ctE0) ?_ b_find
  · intro As σ hP
    unfold P_find at hP
    split at hP
    next => exact Nat.le_of_ble_eq_true rfl
    next => exact hP.elim
