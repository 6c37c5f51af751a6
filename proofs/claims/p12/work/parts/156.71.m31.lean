def P_lateErr : RP := fun As σ => match As with
  | [.int what, .int t] => 0 ≤ t ∧ t ≤ 2599
  | _ => False
def Q_lateErr : RQ := fun As σ w τ => match As with
  | [.int what, .int t] => w = none ∧ ∃ a b : Int32, τ = sI (sI σ 112 a) 113 b
  | _ => False
set_option maxRecDepth 100000 in
set_option maxHeartbeats 4000000 in
theorem b_lateErr : Bod BlateErr [] P_lateErr Q_lateErr := by
  · intro As σ hP G hB hW
    unfold P_lateErr at hP
    split at hP
    next what t => 
      unfold Q_lateErr at hB
      dsimp only at hB
      apply hB
      dsimp only [rgo, rfd, BlateErr, Nat.beq, rwp, rst, lv_args, rlk, rs1, rs2, rdl, rky, rct, rcs, rcd, rno, rsw, Value.category, List.filter, List.take, List.drop, List.reverse, List.reverseAux, List.cons_append, List.nil_append, Option.toList, Int.toNat, Int.reduceToNat, if_pos, if_neg, reduceIte, ↓reduceIte, Nat.reduceAdd, Nat.reduceEqDiff, Nat.reduceBEq, beq_self_eq_true, Bool.not_true, Bool.not_false, Bool.and_true, Bool.and_false, Bool.true_and, Bool.false_and, gI_sI, gI_sL, gI_sA, gI_sM, gL_sI, gL_sL, gL_sA, gL_sM, aI_sI, aI_sL, aI_sA, aI_sM, aL_sI, aL_sL, aL_sA, aL_sM, BlateErr_0, BlateErr_14, BlateErr_22, BlateErr_30, BlateErr_38, BlateErr_39]; try dsimp only
      refine ⟨rfl, rfl, (in_4 (by lia) (by lia)), rfl, fun h1 => ?_, fun h1 => ?_⟩
      · apply hB
        dsimp only [rgo, rfd, BlateErr, Nat.beq, rwp, rst, lv_args, rlk, rs1, rs2, rdl, rky, rct, rcs, rcd, rno, rsw, Value.category, List.filter, List.take, List.drop, List.reverse, List.reverseAux, List.cons_append, List.nil_append, Option.toList, Int.toNat, Int.reduceToNat, if_pos, if_neg, reduceIte, ↓reduceIte, Nat.reduceAdd, Nat.reduceEqDiff, Nat.reduceBEq, beq_self_eq_true, Bool.not_true, Bool.not_false, Bool.and_true, Bool.and_false, Bool.true_and, Bool.false_and, gI_sI, gI_sL, gI_sA, gI_sM, gL_sI, gL_sL, gL_sA, gL_sM, aI_sI, aI_sL, aI_sA, aI_sM, aL_sI, aL_sL, aL_sA, aL_sM, BlateErr_0, BlateErr_14, BlateErr_22, BlateErr_30, BlateErr_38, BlateErr_39]; try dsimp only
        refine ⟨rfl, rfl, ?_⟩
        first | exact ⟨rfl, _, _, rfl⟩ | exact ⟨rfl, gI σ 112, gI σ 113, by simp only [sI_id]⟩
      · apply hB
        dsimp only [rgo, rfd, BlateErr, Nat.beq, rwp, rst, lv_args, rlk, rs1, rs2, rdl, rky, rct, rcs, rcd, rno, rsw, Value.category, List.filter, List.take, List.drop, List.reverse, List.reverseAux, List.cons_append, List.nil_append, Option.toList, Int.toNat, Int.reduceToNat, if_pos, if_neg, reduceIte, ↓reduceIte, Nat.reduceAdd, Nat.reduceEqDiff, Nat.reduceBEq, beq_self_eq_true, Bool.not_true, Bool.not_false, Bool.and_true, Bool.and_false, Bool.true_and, Bool.false_and, gI_sI, gI_sL, gI_sA, gI_sM, gL_sI, gL_sL, gL_sA, gL_sM, aI_sI, aI_sL, aI_sA, aI_sM, aL_sI, aL_sL, aL_sA, aL_sM, BlateErr_0, BlateErr_14, BlateErr_22, BlateErr_30, BlateErr_38, BlateErr_39]; try dsimp only
        refine ⟨rfl, fun h2 => ?_, fun h2 => ?_⟩
        · apply hB
          dsimp only [rgo, rfd, BlateErr, Nat.beq, rwp, rst, lv_args, rlk, rs1, rs2, rdl, rky, rct, rcs, rcd, rno, rsw, Value.category, List.filter, List.take, List.drop, List.reverse, List.reverseAux, List.cons_append, List.nil_append, Option.toList, Int.toNat, Int.reduceToNat, if_pos, if_neg, reduceIte, ↓reduceIte, Nat.reduceAdd, Nat.reduceEqDiff, Nat.reduceBEq, beq_self_eq_true, Bool.not_true, Bool.not_false, Bool.and_true, Bool.and_false, Bool.true_and, Bool.false_and, gI_sI, gI_sL, gI_sA, gI_sM, gL_sI, gL_sL, gL_sA, gL_sM, aI_sI, aI_sL, aI_sA, aI_sM, aL_sI, aL_sL, aL_sA, aL_sM, BlateErr_0, BlateErr_14, BlateErr_22, BlateErr_30, BlateErr_38, BlateErr_39]; try dsimp only
          first | exact ⟨rfl, _, _, rfl⟩ | exact ⟨rfl, gI σ 112, gI σ 113, by simp only [sI_id]⟩
        · apply hB
          dsimp only [rgo, rfd, BlateErr, Nat.beq, rwp, rst, lv_args, rlk, rs1, rs2, rdl, rky, rct, rcs, rcd, rno, rsw, Value.category, List.filter, List.take, List.drop, List.reverse, List.reverseAux, List.cons_append, List.nil_append, Option.toList, Int.toNat, Int.reduceToNat, if_pos, if_neg, reduceIte, ↓reduceIte, Nat.reduceAdd, Nat.reduceEqDiff, Nat.reduceBEq, beq_self_eq_true, Bool.not_true, Bool.not_false, Bool.and_true, Bool.and_false, Bool.true_and, Bool.false_and, gI_sI, gI_sL, gI_sA, gI_sM, gL_sI, gL_sL, gL_sA, gL_sM, aI_sI, aI_sL, aI_sA, aI_sM, aL_sI, aL_sL, aL_sA, aL_sM, BlateErr_0, BlateErr_14, BlateErr_22, BlateErr_30, BlateErr_38, BlateErr_39]; try dsimp only
          refine ⟨rfl, fun h3 => ?_, fun h3 => ?_⟩
          · apply hB
            dsimp only [rgo, rfd, BlateErr, Nat.beq, rwp, rst, lv_args, rlk, rs1, rs2, rdl, rky, rct, rcs, rcd, rno, rsw, Value.category, List.filter, List.take, List.drop, List.reverse, List.reverseAux, List.cons_append, List.nil_append, Option.toList, Int.toNat, Int.reduceToNat, if_pos, if_neg, reduceIte, ↓reduceIte, Nat.reduceAdd, Nat.reduceEqDiff, Nat.reduceBEq, beq_self_eq_true, Bool.not_true, Bool.not_false, Bool.and_true, Bool.and_false, Bool.true_and, Bool.false_and, gI_sI, gI_sL, gI_sA, gI_sM, gL_sI, gL_sL, gL_sA, gL_sM, aI_sI, aI_sL, aI_sA, aI_sM, aL_sI, aL_sL, aL_sA, aL_sM, BlateErr_0, BlateErr_14, BlateErr_22, BlateErr_30, BlateErr_38, BlateErr_39]; try dsimp only
            refine ⟨rfl, rfl, ?_⟩
            first | exact ⟨rfl, _, _, rfl⟩ | exact ⟨rfl, gI σ 112, gI σ 113, by simp only [sI_id]⟩
          · apply hB
            dsimp only [rgo, rfd, BlateErr, Nat.beq, rwp, rst, lv_args, rlk, rs1, rs2, rdl, rky, rct, rcs, rcd, rno, rsw, Value.category, List.filter, List.take, List.drop, List.reverse, List.reverseAux, List.cons_append, List.nil_append, Option.toList, Int.toNat, Int.reduceToNat, if_pos, if_neg, reduceIte, ↓reduceIte, Nat.reduceAdd, Nat.reduceEqDiff, Nat.reduceBEq, beq_self_eq_true, Bool.not_true, Bool.not_false, Bool.and_true, Bool.and_false, Bool.true_and, Bool.false_and, gI_sI, gI_sL, gI_sA, gI_sM, gL_sI, gL_sL, gL_sA, gL_sM, aI_sI, aI_sL, aI_sA, aI_sM, aL_sI, aL_sL, aL_sA, aL_sM, BlateErr_0, BlateErr_14, BlateErr_22, BlateErr_30, BlateErr_38, BlateErr_39]; try dsimp only
            refine ⟨rfl, fun h4 => ?_, fun h4 => ?_⟩
            · apply hB
              dsimp only [rgo, rfd, BlateErr, Nat.beq, rwp, rst, lv_args, rlk, rs1, rs2, rdl, rky, rct, rcs, rcd, rno, rsw, Value.category, List.filter, List.take, List.drop, List.reverse, List.reverseAux, List.cons_append, List.nil_append, Option.toList, Int.toNat, Int.reduceToNat, if_pos, if_neg, reduceIte, ↓reduceIte, Nat.reduceAdd, Nat.reduceEqDiff, Nat.reduceBEq, beq_self_eq_true, Bool.not_true, Bool.not_false, Bool.and_true, Bool.and_false, Bool.true_and, Bool.false_and, gI_sI, gI_sL, gI_sA, gI_sM, gL_sI, gL_sL, gL_sA, gL_sM, aI_sI, aI_sL, aI_sA, aI_sM, aL_sI, aL_sL, aL_sA, aL_sM, BlateErr_0, BlateErr_14, BlateErr_22, BlateErr_30, BlateErr_38, BlateErr_39]; try dsimp only
              refine ⟨rfl, rfl, ?_⟩
              first | exact ⟨rfl, _, _, rfl⟩ | exact ⟨rfl, gI σ 112, gI σ 113, by simp only [sI_id]⟩
            · apply hB
              dsimp only [rgo, rfd, BlateErr, Nat.beq, rwp, rst, lv_args, rlk, rs1, rs2, rdl, rky, rct, rcs, rcd, rno, rsw, Value.category, List.filter, List.take, List.drop, List.reverse, List.reverseAux, List.cons_append, List.nil_append, Option.toList, Int.toNat, Int.reduceToNat, if_pos, if_neg, reduceIte, ↓reduceIte, Nat.reduceAdd, Nat.reduceEqDiff, Nat.reduceBEq, beq_self_eq_true, Bool.not_true, Bool.not_false, Bool.and_true, Bool.and_false, Bool.true_and, Bool.false_and, gI_sI, gI_sL, gI_sA, gI_sM, gL_sI, gL_sL, gL_sA, gL_sM, aI_sI, aI_sL, aI_sA, aI_sM, aL_sI, aL_sL, aL_sA, aL_sM, BlateErr_0, BlateErr_14, BlateErr_22, BlateErr_30, BlateErr_38, BlateErr_39]; try dsimp only
              first | exact ⟨rfl, _, _, rfl⟩ | exact ⟨rfl, gI σ 112, gI σ 113, by simp only [sI_id]⟩
    next => exact hP.elim
theorem m_lateErr (l : Launch) : RMet l 1 110 P_lateErr Q_lateErr := by
  refine RMet.by BlateErr [] rolateErr okBlateErr ct0 ?_ b_lateErr
  · intro As σ hP
    unfold P_lateErr at hP
    split at hP
    next => exact Nat.le_of_ble_eq_true rfl
    next => exact hP.elim
set_option maxRecDepth 100000 in
theorem e_lateErr (l : Launch) : RMetE l 1 110 P_lateErr Q_lateErr := by
  refine RMetE.by BlateErr [] rfl rfl rolateErr okBlateErr ctE0 ?_ b_lateErr
  · intro As σ hP
    unfold P_lateErr at hP
    split at hP
    next => exact Nat.le_of_ble_eq_true rfl
    next => exact hP.elim
def P_now : RP := fun As σ => match As with
  | [] => True
  | _ => False
def Q_now : RQ := fun As σ w τ => match As with
  | [] => ∃ r : Int64, w = some (.long r) ∧ τ = σ
  | _ => False
set_option maxRecDepth 100000 in
set_option maxHeartbeats 4000000 in
theorem b_now : Bod Bnow [] P_now Q_now := by
  · intro As σ hP G hB hW
    unfold P_now at hP
    split at hP
    next => 
      unfold Q_now at hB
      dsimp only at hB
      apply hB
      dsimp only [rgo, rfd, Bnow, Nat.beq, rwp, rst, lv_args, rlk, rs1, rs2, rdl, rky, rct, rcs, rcd, rno, rsw, Value.category, List.filter, List.take, List.drop, List.reverse, List.reverseAux, List.cons_append, List.nil_append, Option.toList, Int.toNat, Int.reduceToNat, if_pos, if_neg, reduceIte, ↓reduceIte, Nat.reduceAdd, Nat.reduceEqDiff, Nat.reduceBEq, beq_self_eq_true, Bool.not_true, Bool.not_false, Bool.and_true, Bool.and_false, Bool.true_and, Bool.false_and, gI_sI, gI_sL, gI_sA, gI_sM, gL_sI, gL_sL, gL_sA, gL_sM, aI_sI, aI_sL, aI_sA, aI_sM, aL_sI, aL_sL, aL_sA, aL_sM, Bnow_0]; try dsimp only
      refine ⟨rfl, rfl, ?_⟩
      exact ⟨_, rfl, rfl⟩
    next => exact hP.elim
theorem m_now (l : Launch) : RMet l 1 111 P_now Q_now := by
  refine RMet.by Bnow [] ronow okBnow ct0 ?_ b_now
  · intro As σ hP
    unfold P_now at hP
    split at hP
    next => exact Nat.le_of_ble_eq_true rfl
    next => exact hP.elim
set_option maxRecDepth 100000 in
theorem e_now (l : Launch) : RMetE l 1 111 P_now Q_now := by
  refine RMetE.by Bnow [] rfl rfl ronow okBnow ctE0 ?_ b_now
  · intro As σ hP
    unfold P_now at hP
    split at hP
    next => exact Nat.le_of_ble_eq_true rfl
    next => exact hP.elim
def P_be : RP := fun As σ => match As with
  | [.long v] => True
  | _ => False
def Q_be : RQ := fun As σ w τ => match As with
  | [.long v] => w = none ∧ τ = sL (sL σ 93 v) 94 v
  | _ => False
set_option maxRecDepth 100000 in
set_option maxHeartbeats 4000000 in
theorem b_be : Bod Bbe [] P_be Q_be := by
  · intro As σ hP G hB hW
    unfold P_be at hP
    split at hP
    next v => 
      unfold Q_be at hB
      dsimp only at hB
      apply hB
      dsimp only [rgo, rfd, Bbe, Nat.beq, rwp, rst, lv_args, rlk, rs1, rs2, rdl, rky, rct, rcs, rcd, rno, rsw, Value.category, List.filter, List.take, List.drop, List.reverse, List.reverseAux, List.cons_append, List.nil_append, Option.toList, Int.toNat, Int.reduceToNat, if_pos, if_neg, reduceIte, ↓reduceIte, Nat.reduceAdd, Nat.reduceEqDiff, Nat.reduceBEq, beq_self_eq_true, Bool.not_true, Bool.not_false, Bool.and_true, Bool.and_false, Bool.true_and, Bool.false_and, gI_sI, gI_sL, gI_sA, gI_sM, gL_sI, gL_sL, gL_sA, gL_sM, aI_sI, aI_sL, aI_sA, aI_sM, aL_sI, aL_sL, aL_sA, aL_sM, Bbe_0]; try dsimp only
      refine ⟨rfl, rfl, ?_⟩
      exact ⟨rfl, rfl⟩
    next => exact hP.elim
theorem m_be (l : Launch) : RMet l 1 112 P_be Q_be := by
  refine RMet.by Bbe [] robe okBbe ct0 ?_ b_be
  · intro As σ hP
    unfold P_be at hP
    split at hP
    next => exact Nat.le_of_ble_eq_true rfl
    next => exact hP.elim
set_option maxRecDepth 100000 in
theorem e_be (l : Launch) : RMetE l 1 112 P_be Q_be := by
  refine RMetE.by Bbe [] rfl rfl robe okBbe ctE0 ?_ b_be
  · intro As σ hP
    unfold P_be at hP
    split at hP
    next => exact Nat.le_of_ble_eq_true rfl
    next => exact hP.elim
def P_findAt : RP := fun As σ => match As with
  | [.int c] => (0 ≤ c ∧ c < 4000) ∧ (0 ≤ aI σ 22 c.toNatClampNeg ∧ aI σ 22 c.toNatClampNeg ≤ 2599)
  | _ => False
def Q_findAt : RQ := fun As σ w τ => match As with
  | [.int c] => w = some (.int (aI σ 80 (aI σ 22 c.toNatClampNeg).toNatClampNeg)) ∧ τ = σ
  | _ => False
set_option maxRecDepth 100000 in
set_option maxHeartbeats 4000000 in
theorem b_findAt : Bod BfindAt [] P_findAt Q_findAt := by
  · intro As σ hP G hB hW
    unfold P_findAt at hP
    split at hP
    next c => 
      unfold Q_findAt at hB
      dsimp only at hB
      apply hB
      dsimp only [rgo, rfd, BfindAt, Nat.beq, rwp, rst, lv_args, rlk, rs1, rs2, rdl, rky, rct, rcs, rcd, rno, rsw, Value.category, List.filter, List.take, List.drop, List.reverse, List.reverseAux, List.cons_append, List.nil_append, Option.toList, Int.toNat, Int.reduceToNat, if_pos, if_neg, reduceIte, ↓reduceIte, Nat.reduceAdd, Nat.reduceEqDiff, Nat.reduceBEq, beq_self_eq_true, Bool.not_true, Bool.not_false, Bool.and_true, Bool.and_false, Bool.true_and, Bool.false_and, gI_sI, gI_sL, gI_sA, gI_sM, gL_sI, gL_sL, gL_sA, gL_sM, aI_sI, aI_sL, aI_sA, aI_sM, aL_sI, aL_sL, aL_sA, aL_sM, BfindAt_0]; try dsimp only
      refine ⟨rfl, rfl, rfl, (in_22 (by lia) (by lia)), rfl, (in_80 (by lia) (by lia)), trivial, ?_⟩
      exact ⟨rfl, rfl⟩
    next => exact hP.elim
theorem m_findAt (l : Launch) : RMet l 1 118 P_findAt Q_findAt := by
  refine RMet.by BfindAt [] rofindAt okBfindAt ct0 ?_ b_findAt
  · intro As σ hP
    unfold P_findAt at hP
    split at hP
    next => exact Nat.le_of_ble_eq_true rfl
    next => exact hP.elim
set_option maxRecDepth 100000 in
theorem e_findAt (l : Launch) : RMetE l 1 118 P_findAt Q_findAt := by
  refine RMetE.by BfindAt [] rfl rfl rofindAt okBfindAt ctE0 ?_ b_findAt
  · intro As σ hP
    unfold P_findAt at hP
    split at hP
    next => exact Nat.le_of_ble_eq_true rfl
    next => exact hP.elim
def P_slot : RP := fun As σ => match As with
  | [.int v] => True
  | _ => False
def Q_slot : RQ := fun As σ w τ => match As with
  | [.int v] => w = some (.int (60 * ((gI σ 129) - 1) + v)) ∧ τ = σ
  | _ => False
set_option maxRecDepth 100000 in
set_option maxHeartbeats 4000000 in
theorem m_slot (l : Launch) : RMet l 1 146 P_slot Q_slot := by
  refine RMet.by Bslot [] roslot okBslot ct0 ?_ ?_
  · intro As σ hP
    unfold P_slot at hP
    split at hP
    next => exact Nat.le_of_ble_eq_true rfl
    next => exact hP.elim
  · intro As σ hP G hB hW
    unfold P_slot at hP
    split at hP
    next v => 
      unfold Q_slot at hB
      dsimp only at hB
      apply hB
      dsimp only [rgo, rfd, Bslot, Nat.beq, rwp, rst, lv_args, rlk, rs1, rs2, rdl, rky, rct, rcs, rcd, rno, rsw, Value.category, List.filter, List.take, List.drop, List.reverse, List.reverseAux, List.cons_append, List.nil_append, Option.toList, Int.toNat, Int.reduceToNat, if_pos, if_neg, reduceIte, ↓reduceIte, Nat.reduceAdd, Nat.reduceEqDiff, Nat.reduceBEq, beq_self_eq_true, Bool.not_true, Bool.not_false, Bool.and_true, Bool.and_false, Bool.true_and, Bool.false_and, gI_sI, gI_sL, gI_sA, gI_sM, gL_sI, gL_sL, gL_sA, gL_sM, aI_sI, aI_sL, aI_sA, aI_sM, aL_sI, aL_sL, aL_sA, aL_sM, Bslot_0, oi_1, oi_60]; try dsimp only
      refine ⟨rfl, trivial, ?_⟩
      exact ⟨rfl, rfl⟩
    next => exact hP.elim
def P_count1 : RP := fun As σ => match As with
  | [] => True
  | _ => False
def Q_count1 : RQ := fun As σ w τ => match As with
  | [] => ∃ r : Int32, w = some (.int r) ∧ ((r = 0 ∧ (gI σ 144) = (gI σ 145) ∧ τ = sI σ 142 3) ∨ (r = 1 ∧ ¬ (gI σ 144) = (gI σ 145) ∧ τ = sI σ 144 ((gI σ 144) + 1)))
  | _ => False
set_option maxRecDepth 100000 in
set_option maxHeartbeats 4000000 in
theorem m_count1 (l : Launch) : RMet l 1 145 P_count1 Q_count1 := by
  refine RMet.by Bcount1 [] rocount1 okBcount1 ct0 ?_ ?_
  · intro As σ hP
    unfold P_count1 at hP
    split at hP
    next => exact Nat.le_of_ble_eq_true rfl
    next => exact hP.elim
  · intro As σ hP G hB hW
    unfold P_count1 at hP
    split at hP
    next => 
      unfold Q_count1 at hB
      dsimp only at hB
      apply hB
      dsimp only [rgo, rfd, Bcount1, Nat.beq, rwp, rst, lv_args, rlk, rs1, rs2, rdl, rky, rct, rcs, rcd, rno, rsw, Value.category, List.filter, List.take, List.drop, List.reverse, List.reverseAux, List.cons_append, List.nil_append, Option.toList, Int.toNat, Int.reduceToNat, if_pos, if_neg, reduceIte, ↓reduceIte, Nat.reduceAdd, Nat.reduceEqDiff, Nat.reduceBEq, beq_self_eq_true, Bool.not_true, Bool.not_false, Bool.and_true, Bool.and_false, Bool.true_and, Bool.false_and, gI_sI, gI_sL, gI_sA, gI_sM, gL_sI, gL_sL, gL_sA, gL_sM, aI_sI, aI_sL, aI_sA, aI_sM, aL_sI, aL_sL, aL_sA, aL_sM, Bcount1_0, Bcount1_11, Bcount1_18, oi_0, oi_1, oi_3]; try dsimp only
      refine ⟨rfl, rfl, fun h1 => ?_, fun h1 => ?_⟩
      · apply hB
        dsimp only [rgo, rfd, Bcount1, Nat.beq, rwp, rst, lv_args, rlk, rs1, rs2, rdl, rky, rct, rcs, rcd, rno, rsw, Value.category, List.filter, List.take, List.drop, List.reverse, List.reverseAux, List.cons_append, List.nil_append, Option.toList, Int.toNat, Int.reduceToNat, if_pos, if_neg, reduceIte, ↓reduceIte, Nat.reduceAdd, Nat.reduceEqDiff, Nat.reduceBEq, beq_self_eq_true, Bool.not_true, Bool.not_false, Bool.and_true, Bool.and_false, Bool.true_and, Bool.false_and, gI_sI, gI_sL, gI_sA, gI_sM, gL_sI, gL_sL, gL_sA, gL_sM, aI_sI, aI_sL, aI_sA, aI_sM, aL_sI, aL_sL, aL_sA, aL_sM, Bcount1_0, Bcount1_11, Bcount1_18, oi_0, oi_1, oi_3]; try dsimp only
        refine ⟨rfl, rfl, Or.inr rfl, ?_⟩
        exact ⟨_, rfl, Or.inr ⟨rfl, by lia, rfl⟩⟩
      · apply hB
        dsimp only [rgo, rfd, Bcount1, Nat.beq, rwp, rst, lv_args, rlk, rs1, rs2, rdl, rky, rct, rcs, rcd, rno, rsw, Value.category, List.filter, List.take, List.drop, List.reverse, List.reverseAux, List.cons_append, List.nil_append, Option.toList, Int.toNat, Int.reduceToNat, if_pos, if_neg, reduceIte, ↓reduceIte, Nat.reduceAdd, Nat.reduceEqDiff, Nat.reduceBEq, beq_self_eq_true, Bool.not_true, Bool.not_false, Bool.and_true, Bool.and_false, Bool.true_and, Bool.false_and, gI_sI, gI_sL, gI_sA, gI_sM, gL_sI, gL_sL, gL_sA, gL_sM, aI_sI, aI_sL, aI_sA, aI_sM, aL_sI, aL_sL, aL_sA, aL_sM, Bcount1_0, Bcount1_11, Bcount1_18, oi_0, oi_1, oi_3]; try dsimp only
        refine ⟨rfl, Or.inl rfl, ?_⟩
        exact ⟨_, rfl, Or.inl ⟨rfl, by lia, rfl⟩⟩
    next => exact hP.elim
def P_begin : RP := fun As σ => match As with
  | [.int m, .int to] => 0 ≤ (gI σ 129) ∧ (gI σ 129) ≤ 30
  | _ => False
def Q_begin : RQ := fun As σ w τ => match As with
  | [.int m, .int to] => ∃ r : Int32, w = some (.int r) ∧ ((r = 0 ∧ (gI σ 129) = 30 ∧ τ = sI σ 142 4) ∨ (r = 1 ∧ (gI σ 129) < 30 ∧ τ = sI (sA (sA σ 132 (upd (aI σ 132) ((gI σ 129)).toNatClampNeg m)) 131 (upd (aI σ 131) ((gI σ 129)).toNatClampNeg to)) 129 ((gI σ 129) + 1)))
  | _ => False
set_option maxRecDepth 100000 in
set_option maxHeartbeats 4000000 in
theorem m_begin (l : Launch) : RMet l 1 150 P_begin Q_begin := by
  refine RMet.by Bbegin [] robegin okBbegin ct0 ?_ ?_
  · intro As σ hP
    unfold P_begin at hP
    split at hP
    next => exact Nat.le_of_ble_eq_true rfl
    next => exact hP.elim
  · intro As σ hP G hB hW
    unfold P_begin at hP
    split at hP
    next m to => 
      unfold Q_begin at hB
      dsimp only at hB
      apply hB
      dsimp only [rgo, rfd, Bbegin, Nat.beq, rwp, rst, lv_args, rlk, rs1, rs2, rdl, rky, rct, rcs, rcd, rno, rsw, Value.category, List.filter, List.take, List.drop, List.reverse, List.reverseAux, List.cons_append, List.nil_append, Option.toList, Int.toNat, Int.reduceToNat, if_pos, if_neg, reduceIte, ↓reduceIte, Nat.reduceAdd, Nat.reduceEqDiff, Nat.reduceBEq, beq_self_eq_true, Bool.not_true, Bool.not_false, Bool.and_true, Bool.and_false, Bool.true_and, Bool.false_and, gI_sI, gI_sL, gI_sA, gI_sM, gL_sI, gL_sL, gL_sA, gL_sM, aI_sI, aI_sL, aI_sA, aI_sM, aL_sI, aL_sL, aL_sA, aL_sM, Bbegin_0, Bbegin_9, Bbegin_16, oi_0, oi_1, oi_30, oi_4]; try dsimp only
      refine ⟨rfl, fun h1 => ?_, fun h1 => ?_⟩
      · apply hB
        dsimp only [rgo, rfd, Bbegin, Nat.beq, rwp, rst, lv_args, rlk, rs1, rs2, rdl, rky, rct, rcs, rcd, rno, rsw, Value.category, List.filter, List.take, List.drop, List.reverse, List.reverseAux, List.cons_append, List.nil_append, Option.toList, Int.toNat, Int.reduceToNat, if_pos, if_neg, reduceIte, ↓reduceIte, Nat.reduceAdd, Nat.reduceEqDiff, Nat.reduceBEq, beq_self_eq_true, Bool.not_true, Bool.not_false, Bool.and_true, Bool.and_false, Bool.true_and, Bool.false_and, gI_sI, gI_sL, gI_sA, gI_sM, gL_sI, gL_sL, gL_sA, gL_sM, aI_sI, aI_sL, aI_sA, aI_sM, aL_sI, aL_sL, aL_sA, aL_sM, Bbegin_0, Bbegin_9, Bbegin_16, oi_0, oi_1, oi_30, oi_4]; try dsimp only
        refine ⟨rfl, rfl, rfl, (in_132 (by lia) (by lia)), rfl, rfl, rfl, (in_131 (by lia) (by lia)), rfl, rfl, Or.inr rfl, ?_⟩
        exact ⟨_, rfl, Or.inr ⟨rfl, by lia, rfl⟩⟩
      · apply hB
        dsimp only [rgo, rfd, Bbegin, Nat.beq, rwp, rst, lv_args, rlk, rs1, rs2, rdl, rky, rct, rcs, rcd, rno, rsw, Value.category, List.filter, List.take, List.drop, List.reverse, List.reverseAux, List.cons_append, List.nil_append, Option.toList, Int.toNat, Int.reduceToNat, if_pos, if_neg, reduceIte, ↓reduceIte, Nat.reduceAdd, Nat.reduceEqDiff, Nat.reduceBEq, beq_self_eq_true, Bool.not_true, Bool.not_false, Bool.and_true, Bool.and_false, Bool.true_and, Bool.false_and, gI_sI, gI_sL, gI_sA, gI_sM, gL_sI, gL_sL, gL_sA, gL_sM, aI_sI, aI_sL, aI_sA, aI_sM, aL_sI, aL_sL, aL_sA, aL_sM, Bbegin_0, Bbegin_9, Bbegin_16, oi_0, oi_1, oi_30, oi_4]; try dsimp only
        refine ⟨rfl, Or.inl rfl, ?_⟩
        exact ⟨_, rfl, Or.inl ⟨rfl, by lia, rfl⟩⟩
    next => exact hP.elim
def P_put : RP := fun As σ => match As with
  | [.long v] => 0 ≤ (gI σ 128) ∧ (gI σ 128) < 8000
  | _ => False
def Q_put : RQ := fun As σ w τ => match As with
  | [.long v] => w = none ∧ ∃ f, τ = sI (sM σ 127 f) 128 ((gI σ 128) + 1)
  | _ => False
set_option maxRecDepth 100000 in
set_option maxHeartbeats 4000000 in
theorem m_put (l : Launch) : RMet l 1 144 P_put Q_put := by
  refine RMet.by Bput [] roput okBput ct0 ?_ ?_
  · intro As σ hP
    unfold P_put at hP
    split at hP
    next => exact Nat.le_of_ble_eq_true rfl
    next => exact hP.elim
  · intro As σ hP G hB hW
    unfold P_put at hP
    split at hP
    next v => 
      unfold Q_put at hB
      dsimp only at hB
      apply hB
      dsimp only [rgo, rfd, Bput, Nat.beq, rwp, rst, lv_args, rlk, rs1, rs2, rdl, rky, rct, rcs, rcd, rno, rsw, Value.category, List.filter, List.take, List.drop, List.reverse, List.reverseAux, List.cons_append, List.nil_append, Option.toList, Int.toNat, Int.reduceToNat, if_pos, if_neg, reduceIte, ↓reduceIte, Nat.reduceAdd, Nat.reduceEqDiff, Nat.reduceBEq, beq_self_eq_true, Bool.not_true, Bool.not_false, Bool.and_true, Bool.and_false, Bool.true_and, Bool.false_and, gI_sI, gI_sL, gI_sA, gI_sM, gL_sI, gL_sL, gL_sA, gL_sM, aI_sI, aI_sL, aI_sA, aI_sM, aL_sI, aL_sL, aL_sA, aL_sM, Bput_0, oi_1]; try dsimp only
      refine ⟨rfl, rfl, rfl, (in_127 (by lia) (by lia)), rfl, rfl, ?_⟩
      exact ⟨rfl, _, rfl⟩
    next => exact hP.elim
def P_pop1 : RP := fun As σ => match As with
  | [] => 0 < (gI σ 128) ∧ (gI σ 128) ≤ 8000
  | _ => False
def Q_pop1 : RQ := fun As σ w τ => match As with
  | [] => ∃ r : Int64, w = some (.long r) ∧ τ = sI σ 128 ((gI σ 128) - 1)
  | _ => False
set_option maxRecDepth 100000 in
set_option maxHeartbeats 4000000 in
theorem m_pop1 (l : Launch) : RMet l 1 143 P_pop1 Q_pop1 := by
  refine RMet.by Bpop1 [] ropop1 okBpop1 ct0 ?_ ?_
  · intro As σ hP
    unfold P_pop1 at hP
    split at hP
    next => exact Nat.le_of_ble_eq_true rfl
    next => exact hP.elim
  · intro As σ hP G hB hW
    unfold P_pop1 at hP
    split at hP
    next => 
      unfold Q_pop1 at hB
      dsimp only at hB
      apply hB
      dsimp only [rgo, rfd, Bpop1, Nat.beq, rwp, rst, lv_args, rlk, rs1, rs2, rdl, rky, rct, rcs, rcd, rno, rsw, Value.category, List.filter, List.take, List.drop, List.reverse, List.reverseAux, List.cons_append, List.nil_append, Option.toList, Int.toNat, Int.reduceToNat, if_pos, if_neg, reduceIte, ↓reduceIte, Nat.reduceAdd, Nat.reduceEqDiff, Nat.reduceBEq, beq_self_eq_true, Bool.not_true, Bool.not_false, Bool.and_true, Bool.and_false, Bool.true_and, Bool.false_and, gI_sI, gI_sL, gI_sA, gI_sM, gL_sI, gL_sL, gL_sA, gL_sM, aI_sI, aI_sL, aI_sA, aI_sM, aL_sI, aL_sL, aL_sA, aL_sM, Bpop1_0, oi_1]; try dsimp only
      refine ⟨rfl, rfl, rfl, rfl, rfl, (in_127 (by lia) (by lia)), ?_⟩
      exact ⟨_, rfl, rfl⟩
    next => exact hP.elim
def P_tell : RP := fun As σ => match As with
  | [.long v] => 0 ≤ (gI σ 148) ∧ (gI σ 148) ≤ 200
  | _ => False
def Q_tell : RQ := fun As σ w τ => match As with
  | [.long v] => w = none ∧ (τ = sI σ 142 5 ∨ ((gI σ 148) < 200 ∧ ∃ f, τ = sI (sM σ 149 f) 148 ((gI σ 148) + 1)))
  | _ => False
set_option maxRecDepth 100000 in
set_option maxHeartbeats 4000000 in
theorem m_tell (l : Launch) : RMet l 1 156 P_tell Q_tell := by
  refine RMet.by Btell [] rotell okBtell ct0 ?_ ?_
  · intro As σ hP
    unfold P_tell at hP
    split at hP
    next => exact Nat.le_of_ble_eq_true rfl
    next => exact hP.elim
  · intro As σ hP G hB hW
    unfold P_tell at hP
    split at hP
    next v => 
      unfold Q_tell at hB
      dsimp only at hB
      apply hB
      dsimp only [rgo, rfd, Btell, Nat.beq, rwp, rst, lv_args, rlk, rs1, rs2, rdl, rky, rct, rcs, rcd, rno, rsw, Value.category, List.filter, List.take, List.drop, List.reverse, List.reverseAux, List.cons_append, List.nil_append, Option.toList, Int.toNat, Int.reduceToNat, if_pos, if_neg, reduceIte, ↓reduceIte, Nat.reduceAdd, Nat.reduceEqDiff, Nat.reduceBEq, beq_self_eq_true, Bool.not_true, Bool.not_false, Bool.and_true, Bool.and_false, Bool.true_and, Bool.false_and, gI_sI, gI_sL, gI_sA, gI_sM, gL_sI, gL_sL, gL_sA, gL_sM, aI_sI, aI_sL, aI_sA, aI_sM, aL_sI, aL_sL, aL_sA, aL_sM, Btell_0, Btell_10, Btell_16, oi_1, oi_200, oi_5]; try dsimp only
      refine ⟨rfl, fun h1 => ?_, fun h1 => ?_⟩
      · apply hB
        dsimp only [rgo, rfd, Btell, Nat.beq, rwp, rst, lv_args, rlk, rs1, rs2, rdl, rky, rct, rcs, rcd, rno, rsw, Value.category, List.filter, List.take, List.drop, List.reverse, List.reverseAux, List.cons_append, List.nil_append, Option.toList, Int.toNat, Int.reduceToNat, if_pos, if_neg, reduceIte, ↓reduceIte, Nat.reduceAdd, Nat.reduceEqDiff, Nat.reduceBEq, beq_self_eq_true, Bool.not_true, Bool.not_false, Bool.and_true, Bool.and_false, Bool.true_and, Bool.false_and, gI_sI, gI_sL, gI_sA, gI_sM, gL_sI, gL_sL, gL_sA, gL_sM, aI_sI, aI_sL, aI_sA, aI_sM, aL_sI, aL_sL, aL_sA, aL_sM, Btell_0, Btell_10, Btell_16, oi_1, oi_200, oi_5]; try dsimp only
        refine ⟨rfl, rfl, rfl, (in_149 (by lia) (by lia)), rfl, rfl, ?_⟩
        first | exact ⟨rfl, Or.inl rfl⟩ | exact ⟨rfl, Or.inr ⟨by lia, _, rfl⟩⟩
      · apply hB
        dsimp only [rgo, rfd, Btell, Nat.beq, rwp, rst, lv_args, rlk, rs1, rs2, rdl, rky, rct, rcs, rcd, rno, rsw, Value.category, List.filter, List.take, List.drop, List.reverse, List.reverseAux, List.cons_append, List.nil_append, Option.toList, Int.toNat, Int.reduceToNat, if_pos, if_neg, reduceIte, ↓reduceIte, Nat.reduceAdd, Nat.reduceEqDiff, Nat.reduceBEq, beq_self_eq_true, Bool.not_true, Bool.not_false, Bool.and_true, Bool.and_false, Bool.true_and, Bool.false_and, gI_sI, gI_sL, gI_sA, gI_sM, gL_sI, gL_sL, gL_sA, gL_sM, aI_sI, aI_sL, aI_sA, aI_sM, aL_sI, aL_sL, aL_sA, aL_sM, Btell_0, Btell_10, Btell_16, oi_1, oi_200, oi_5]; try dsimp only
        refine ⟨rfl, ?_⟩
        first | exact ⟨rfl, Or.inl rfl⟩ | exact ⟨rfl, Or.inr ⟨by lia, _, rfl⟩⟩
    next => exact hP.elim
def P_next : RP := fun As σ => match As with
  | [] => (0 ≤ (gI σ 146) ∧ (gI σ 146) ≤ 100000) ∧ (0 ≤ (gI σ 123) ∧ (gI σ 123) ≤ 40)
  | _ => False
def Q_next : RQ := fun As σ w τ => match As with
  | [] => ∃ r : Int64, w = some (.long r) ∧ τ = sI σ 146 ((gI σ 146) + 1)
  | _ => False
set_option maxRecDepth 100000 in
set_option maxHeartbeats 4000000 in
theorem m_next (l : Launch) : RMet l 1 155 P_next Q_next := by
  refine RMet.by Bnext [] ronext okBnext ct0 ?_ ?_
  · intro As σ hP
    unfold P_next at hP
    split at hP
    next => exact Nat.le_of_ble_eq_true rfl
    next => exact hP.elim
  · intro As σ hP G hB hW
    unfold P_next at hP
    split at hP
    next => 
      unfold Q_next at hB
      dsimp only at hB
      apply hB
      dsimp only [rgo, rfd, Bnext, Nat.beq, rwp, rst, lv_args, rlk, rs1, rs2, rdl, rky, rct, rcs, rcd, rno, rsw, Value.category, List.filter, List.take, List.drop, List.reverse, List.reverseAux, List.cons_append, List.nil_append, Option.toList, Int.toNat, Int.reduceToNat, if_pos, if_neg, reduceIte, ↓reduceIte, Nat.reduceAdd, Nat.reduceEqDiff, Nat.reduceBEq, beq_self_eq_true, Bool.not_true, Bool.not_false, Bool.and_true, Bool.and_false, Bool.true_and, Bool.false_and, gI_sI, gI_sL, gI_sA, gI_sM, gL_sI, gL_sL, gL_sA, gL_sM, aI_sI, aI_sL, aI_sA, aI_sM, aL_sI, aL_sL, aL_sA, aL_sM, Bnext_0, Bnext_21, Bnext_36, Bnext_37, oi_1]; try dsimp only
      refine ⟨rfl, rfl, rfl, rfl, fun h1 => ?_, fun h1 => ?_⟩
      · apply hB
        dsimp only [rgo, rfd, Bnext, Nat.beq, rwp, rst, lv_args, rlk, rs1, rs2, rdl, rky, rct, rcs, rcd, rno, rsw, Value.category, List.filter, List.take, List.drop, List.reverse, List.reverseAux, List.cons_append, List.nil_append, Option.toList, Int.toNat, Int.reduceToNat, if_pos, if_neg, reduceIte, ↓reduceIte, Nat.reduceAdd, Nat.reduceEqDiff, Nat.reduceBEq, beq_self_eq_true, Bool.not_true, Bool.not_false, Bool.and_true, Bool.and_false, Bool.true_and, Bool.false_and, gI_sI, gI_sL, gI_sA, gI_sM, gL_sI, gL_sL, gL_sA, gL_sM, aI_sI, aI_sL, aI_sA, aI_sM, aL_sI, aL_sL, aL_sA, aL_sM, Bnext_0, Bnext_21, Bnext_36, Bnext_37, oi_1]; try dsimp only
        apply hB
        dsimp only [rgo, rfd, Bnext, Nat.beq, rwp, rst, lv_args, rlk, rs1, rs2, rdl, rky, rct, rcs, rcd, rno, rsw, Value.category, List.filter, List.take, List.drop, List.reverse, List.reverseAux, List.cons_append, List.nil_append, Option.toList, Int.toNat, Int.reduceToNat, if_pos, if_neg, reduceIte, ↓reduceIte, Nat.reduceAdd, Nat.reduceEqDiff, Nat.reduceBEq, beq_self_eq_true, Bool.not_true, Bool.not_false, Bool.and_true, Bool.and_false, Bool.true_and, Bool.false_and, gI_sI, gI_sL, gI_sA, gI_sM, gL_sI, gL_sL, gL_sA, gL_sM, aI_sI, aI_sL, aI_sA, aI_sM, aL_sI, aL_sL, aL_sA, aL_sM, Bnext_0, Bnext_21, Bnext_36, Bnext_37, oi_1]; try dsimp only
        exact ⟨_, rfl, rfl⟩
      · apply hB
        dsimp only [rgo, rfd, Bnext, Nat.beq, rwp, rst, lv_args, rlk, rs1, rs2, rdl, rky, rct, rcs, rcd, rno, rsw, Value.category, List.filter, List.take, List.drop, List.reverse, List.reverseAux, List.cons_append, List.nil_append, Option.toList, Int.toNat, Int.reduceToNat, if_pos, if_neg, reduceIte, ↓reduceIte, Nat.reduceAdd, Nat.reduceEqDiff, Nat.reduceBEq, beq_self_eq_true, Bool.not_true, Bool.not_false, Bool.and_true, Bool.and_false, Bool.true_and, Bool.false_and, gI_sI, gI_sL, gI_sA, gI_sM, gL_sI, gL_sL, gL_sA, gL_sM, aI_sI, aI_sL, aI_sA, aI_sM, aL_sI, aL_sL, aL_sA, aL_sM, Bnext_0, Bnext_21, Bnext_36, Bnext_37, oi_1]; try dsimp only
        refine ⟨rfl, rfl, rfl, (in_122 (by lia) (by lia)), ?_⟩
        apply hB
        dsimp only [rgo, rfd, Bnext, Nat.beq, rwp, rst, lv_args, rlk, rs1, rs2, rdl, rky, rct, rcs, rcd, rno, rsw, Value.category, List.filter, List.take, List.drop, List.reverse, List.reverseAux, List.cons_append, List.nil_append, Option.toList, Int.toNat, Int.reduceToNat, if_pos, if_neg, reduceIte, ↓reduceIte, Nat.reduceAdd, Nat.reduceEqDiff, Nat.reduceBEq, beq_self_eq_true, Bool.not_true, Bool.not_false, Bool.and_true, Bool.and_false, Bool.true_and, Bool.false_and, gI_sI, gI_sL, gI_sA, gI_sM, gL_sI, gL_sL, gL_sA, gL_sM, aI_sI, aI_sL, aI_sA, aI_sM, aL_sI, aL_sL, aL_sA, aL_sM, Bnext_0, Bnext_21, Bnext_36, Bnext_37, oi_1]; try dsimp only
        exact ⟨_, rfl, rfl⟩
    next => exact hP.elim
