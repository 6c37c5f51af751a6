def P_over : RP := fun As σ => match As with
  | [] => RG σ ∧ CN σ ∧ gI σ 142 = 0 ∧ WS σ (nT (gI σ 141) - 1) ∧ nT (aI σ 19 (nT (gI σ 141) - 1)) = 53
  | _ => False
def Q_over : RQ := fun As σ w τ => match As with
  | [] => w = none ∧ WQ σ (nT (gI σ 141) - 1) τ
  | _ => False
set_option maxRecDepth 100000 in
set_option maxHeartbeats 4000000 in
theorem m_over (l : Launch) : RMet l 4 158 P_over Q_over := by
  refine RMet.by Bover [(147, P_leave_, Q_leave_), (149, P_raise, Q_raise)] roover okBover (ctc (m_leave_ l) (by decide) (ctc (m_raise l) (by decide) ct0)) ?_ ?_
  · intro As σ hP
    unfold P_over at hP
    split at hP
    next => exact Nat.le_of_ble_eq_true rfl
    next => exact hP.elim
  · intro As σ hP G hB hW
    unfold P_over at hP
    split at hP
    next => 
      unfold Q_over at hB
      dsimp only at hB
      obtain ⟨hG, hC, h0, hS, ho⟩ := hP
      have hyb := hS.yb hG ho
      have hy1 := hyb.1
      have hy2 := hyb.2
      apply hB
      dsimp only [rgo, rfd, Bover, Nat.beq, rwp, rst, lv_args, rlk, rs1, rs2, rdl, rky, rct, rcs, rcd, rno, rsw, Value.category, List.filter, List.take, List.drop, List.reverse, List.reverseAux, List.cons_append, List.nil_append, Option.toList, Int.toNat, Int.reduceToNat, if_pos, if_neg, reduceIte, ↓reduceIte, Nat.reduceAdd, Nat.reduceEqDiff, Nat.reduceBEq, beq_self_eq_true, Bool.not_true, Bool.not_false, Bool.and_true, Bool.and_false, Bool.true_and, Bool.false_and, gI_sI, gI_sL, gI_sA, gI_sM, gL_sI, gL_sL, gL_sA, gL_sM, aI_sI, aI_sL, aI_sA, aI_sM, aL_sI, aL_sL, aL_sA, aL_sM, Bover_0, Bover_25, Bover_34, Bover_35, Bover_45, Bover_58, Bover_80, oi_1, oi_2, oi_3, P_leave_, P_raise]; try dsimp only
      refine ⟨rfl, rfl, rfl, rfl, rfl, (in_137 (by lia) (by lia)), fun h1 => ?_, fun h1 => ?_⟩
      · apply hB
        dsimp only [rgo, rfd, Bover, Nat.beq, rwp, rst, lv_args, rlk, rs1, rs2, rdl, rky, rct, rcs, rcd, rno, rsw, Value.category, List.filter, List.take, List.drop, List.reverse, List.reverseAux, List.cons_append, List.nil_append, Option.toList, Int.toNat, Int.reduceToNat, if_pos, if_neg, reduceIte, ↓reduceIte, Nat.reduceAdd, Nat.reduceEqDiff, Nat.reduceBEq, beq_self_eq_true, Bool.not_true, Bool.not_false, Bool.and_true, Bool.and_false, Bool.true_and, Bool.false_and, gI_sI, gI_sL, gI_sA, gI_sM, gL_sI, gL_sL, gL_sA, gL_sM, aI_sI, aI_sL, aI_sA, aI_sM, aL_sI, aL_sL, aL_sA, aL_sM, Bover_0, Bover_25, Bover_34, Bover_35, Bover_45, Bover_58, Bover_80, oi_1, oi_2, oi_3, P_leave_, P_raise]; try dsimp only
        exact ⟨rfl, over_a hG hC h0 hS ho rfl⟩
      · apply hB
        dsimp only [rgo, rfd, Bover, Nat.beq, rwp, rst, lv_args, rlk, rs1, rs2, rdl, rky, rct, rcs, rcd, rno, rsw, Value.category, List.filter, List.take, List.drop, List.reverse, List.reverseAux, List.cons_append, List.nil_append, Option.toList, Int.toNat, Int.reduceToNat, if_pos, if_neg, reduceIte, ↓reduceIte, Nat.reduceAdd, Nat.reduceEqDiff, Nat.reduceBEq, beq_self_eq_true, Bool.not_true, Bool.not_false, Bool.and_true, Bool.and_false, Bool.true_and, Bool.false_and, gI_sI, gI_sL, gI_sA, gI_sM, gL_sI, gL_sL, gL_sA, gL_sM, aI_sI, aI_sL, aI_sA, aI_sM, aL_sI, aL_sL, aL_sA, aL_sM, Bover_0, Bover_25, Bover_34, Bover_35, Bover_45, Bover_58, Bover_80, oi_1, oi_2, oi_3, P_leave_, P_raise]; try dsimp only
        refine ⟨rfl, rfl, (in_138 (by lia) (by lia)), fun h2 => ?_, fun h2 => ?_⟩
        · apply hB
          dsimp only [rgo, rfd, Bover, Nat.beq, rwp, rst, lv_args, rlk, rs1, rs2, rdl, rky, rct, rcs, rcd, rno, rsw, Value.category, List.filter, List.take, List.drop, List.reverse, List.reverseAux, List.cons_append, List.nil_append, Option.toList, Int.toNat, Int.reduceToNat, if_pos, if_neg, reduceIte, ↓reduceIte, Nat.reduceAdd, Nat.reduceEqDiff, Nat.reduceBEq, beq_self_eq_true, Bool.not_true, Bool.not_false, Bool.and_true, Bool.and_false, Bool.true_and, Bool.false_and, gI_sI, gI_sL, gI_sA, gI_sM, gL_sI, gL_sL, gL_sA, gL_sM, aI_sI, aI_sL, aI_sA, aI_sM, aL_sI, aL_sL, aL_sA, aL_sM, Bover_0, Bover_25, Bover_34, Bover_35, Bover_45, Bover_58, Bover_80, oi_1, oi_2, oi_3, P_leave_, P_raise]; try dsimp only
          refine ⟨rfl, rfl, (in_138 (by lia) (by lia)), fun h3 => ?_, fun h3 => ?_⟩
          · apply hB
            dsimp only [rgo, rfd, Bover, Nat.beq, rwp, rst, lv_args, rlk, rs1, rs2, rdl, rky, rct, rcs, rcd, rno, rsw, Value.category, List.filter, List.take, List.drop, List.reverse, List.reverseAux, List.cons_append, List.nil_append, Option.toList, Int.toNat, Int.reduceToNat, if_pos, if_neg, reduceIte, ↓reduceIte, Nat.reduceAdd, Nat.reduceEqDiff, Nat.reduceBEq, beq_self_eq_true, Bool.not_true, Bool.not_false, Bool.and_true, Bool.and_false, Bool.true_and, Bool.false_and, gI_sI, gI_sL, gI_sA, gI_sM, gL_sI, gL_sL, gL_sA, gL_sM, aI_sI, aI_sL, aI_sA, aI_sM, aL_sI, aL_sL, aL_sA, aL_sM, Bover_0, Bover_25, Bover_34, Bover_35, Bover_45, Bover_58, Bover_80, oi_1, oi_2, oi_3, P_leave_, P_raise]; try dsimp only
            refine ⟨rfl, rfl, (in_138 (by lia) (by lia)), rfl, rfl, (in_139 (by lia) (by lia)), rfl, rfl, (in_140 (by lia) (by lia)), rfl, (by decide), (over_l hG hS ho rfl (show ¬ aI σ 137 (gI σ 133 - 1).toNatClampNeg < 2 by lia) (show ¬ aI σ 138 (gI σ 133 - 1).toNatClampNeg = 0 by lia) (show ¬ aI σ 138 (gI σ 133 - 1).toNatClampNeg = 3 by lia)), fun w4 τ4 hq4 => ?_⟩
            have hw4 := hq4.1
            subst hw4
            dsimp only [Option.toList, List.cons_append, List.nil_append, Nat.beq, gI_sI, gI_sL, gI_sA, gI_sM, gL_sI, gL_sL, gL_sA, gL_sM, aI_sI, aI_sL, aI_sA, aI_sM, aL_sI, aL_sL, aL_sA, aL_sM]
            apply hB
            dsimp only [rgo, rfd, Bover, Nat.beq, rwp, rst, lv_args, rlk, rs1, rs2, rdl, rky, rct, rcs, rcd, rno, rsw, Value.category, List.filter, List.take, List.drop, List.reverse, List.reverseAux, List.cons_append, List.nil_append, Option.toList, Int.toNat, Int.reduceToNat, if_pos, if_neg, reduceIte, ↓reduceIte, Nat.reduceAdd, Nat.reduceEqDiff, Nat.reduceBEq, beq_self_eq_true, Bool.not_true, Bool.not_false, Bool.and_true, Bool.and_false, Bool.true_and, Bool.false_and, gI_sI, gI_sL, gI_sA, gI_sM, gL_sI, gL_sL, gL_sA, gL_sM, aI_sI, aI_sL, aI_sA, aI_sM, aL_sI, aL_sL, aL_sA, aL_sM, Bover_0, Bover_25, Bover_34, Bover_35, Bover_45, Bover_58, Bover_80, oi_1, oi_2, oi_3, P_leave_, P_raise]; try dsimp only
            exact ⟨rfl, WQ.ry hC h0 hS.1.2.2 (Ry.rf.i rfl) rfl rfl rfl hq4.2⟩
          · apply hB
            dsimp only [rgo, rfd, Bover, Nat.beq, rwp, rst, lv_args, rlk, rs1, rs2, rdl, rky, rct, rcs, rcd, rno, rsw, Value.category, List.filter, List.take, List.drop, List.reverse, List.reverseAux, List.cons_append, List.nil_append, Option.toList, Int.toNat, Int.reduceToNat, if_pos, if_neg, reduceIte, ↓reduceIte, Nat.reduceAdd, Nat.reduceEqDiff, Nat.reduceBEq, beq_self_eq_true, Bool.not_true, Bool.not_false, Bool.and_true, Bool.and_false, Bool.true_and, Bool.false_and, gI_sI, gI_sL, gI_sA, gI_sM, gL_sI, gL_sL, gL_sA, gL_sM, aI_sI, aI_sL, aI_sA, aI_sM, aL_sI, aL_sL, aL_sA, aL_sM, Bover_0, Bover_25, Bover_34, Bover_35, Bover_45, Bover_58, Bover_80, oi_1, oi_2, oi_3, P_leave_, P_raise]; try dsimp only
            refine ⟨rfl, rfl, (in_140 (by lia) (by lia)), rfl, (by decide), (over_r hG hS ho rfl), fun w5 τ5 hq5 => ?_⟩
            have hw5 := hq5.1
            subst hw5
            dsimp only [Option.toList, List.cons_append, List.nil_append, Nat.beq, gI_sI, gI_sL, gI_sA, gI_sM, gL_sI, gL_sL, gL_sA, gL_sM, aI_sI, aI_sL, aI_sA, aI_sM, aL_sI, aL_sL, aL_sA, aL_sM]
            apply hB
            dsimp only [rgo, rfd, Bover, Nat.beq, rwp, rst, lv_args, rlk, rs1, rs2, rdl, rky, rct, rcs, rcd, rno, rsw, Value.category, List.filter, List.take, List.drop, List.reverse, List.reverseAux, List.cons_append, List.nil_append, Option.toList, Int.toNat, Int.reduceToNat, if_pos, if_neg, reduceIte, ↓reduceIte, Nat.reduceAdd, Nat.reduceEqDiff, Nat.reduceBEq, beq_self_eq_true, Bool.not_true, Bool.not_false, Bool.and_true, Bool.and_false, Bool.true_and, Bool.false_and, gI_sI, gI_sL, gI_sA, gI_sM, gL_sI, gL_sL, gL_sA, gL_sM, aI_sI, aI_sL, aI_sA, aI_sM, aL_sI, aL_sL, aL_sA, aL_sM, Bover_0, Bover_25, Bover_34, Bover_35, Bover_45, Bover_58, Bover_80, oi_1, oi_2, oi_3, P_leave_, P_raise]; try dsimp only
            exact ⟨rfl, WQ.ry hC h0 hS.1.2.2 (Ry.rf.i rfl) rfl rfl rfl hq5.2.1⟩
        · apply hB
          dsimp only [rgo, rfd, Bover, Nat.beq, rwp, rst, lv_args, rlk, rs1, rs2, rdl, rky, rct, rcs, rcd, rno, rsw, Value.category, List.filter, List.take, List.drop, List.reverse, List.reverseAux, List.cons_append, List.nil_append, Option.toList, Int.toNat, Int.reduceToNat, if_pos, if_neg, reduceIte, ↓reduceIte, Nat.reduceAdd, Nat.reduceEqDiff, Nat.reduceBEq, beq_self_eq_true, Bool.not_true, Bool.not_false, Bool.and_true, Bool.and_false, Bool.true_and, Bool.false_and, gI_sI, gI_sL, gI_sA, gI_sM, gL_sI, gL_sL, gL_sA, gL_sM, aI_sI, aI_sL, aI_sA, aI_sM, aL_sI, aL_sL, aL_sA, aL_sM, Bover_0, Bover_25, Bover_34, Bover_35, Bover_45, Bover_58, Bover_80, oi_1, oi_2, oi_3, P_leave_, P_raise]; try dsimp only
          exact ⟨rfl, over_a hG hC h0 hS ho rfl⟩
    next => exact hP.elim
def P_operate : RP := fun As σ => match As with
  | [.int s, .int ty, .long a, .long b] => (RG σ ∧ Hw σ σ) ∧ (0 ≤ (gI σ 128) ∧ (gI σ 128) < 8000)
  | _ => False
def Q_operate : RQ := fun As σ w τ => match As with
  | [.int s, .int ty, .long a, .long b] => w = none ∧ (RY2 σ τ ∨ ∃ f, τ = sI (sM σ 127 f) 128 ((gI σ 128) + 1))
  | _ => False
set_option maxRecDepth 100000 in
set_option maxHeartbeats 4000000 in
theorem m_operate (l : Launch) : RMet l 3 153 P_operate Q_operate := by
  refine RMet.by Boperate [(144, P_put, Q_put), (149, P_raise, Q_raise), (97, P_reckon, Q_reckon)] rooperate okBoperate (ctc (m_put l) (by decide) (ctc (m_raise l) (by decide) (ctc (m_reckon l) (by decide) ct0))) ?_ ?_
  · intro As σ hP
    unfold P_operate at hP
    split at hP
    next => exact Nat.le_of_ble_eq_true rfl
    next => exact hP.elim
  · intro As σ hP G hB hW
    unfold P_operate at hP
    split at hP
    next s ty a b => 
      unfold Q_operate at hB
      dsimp only at hB
      obtain ⟨hR, hh⟩ := hP
      apply hB
      dsimp only [rgo, rfd, Boperate, Nat.beq, rwp, rst, lv_args, rlk, rs1, rs2, rdl, rky, rct, rcs, rcd, rno, rsw, Value.category, List.filter, List.take, List.drop, List.reverse, List.reverseAux, List.cons_append, List.nil_append, Option.toList, Int.toNat, Int.reduceToNat, if_pos, if_neg, reduceIte, ↓reduceIte, Nat.reduceAdd, Nat.reduceEqDiff, Nat.reduceBEq, beq_self_eq_true, Bool.not_true, Bool.not_false, Bool.and_true, Bool.and_false, Bool.true_and, Bool.false_and, gI_sI, gI_sL, gI_sA, gI_sM, gL_sI, gL_sL, gL_sA, gL_sM, aI_sI, aI_sL, aI_sA, aI_sM, aL_sI, aL_sL, aL_sA, aL_sM, Boperate_0, Boperate_6, Boperate_12, Boperate_19, Boperate_29, Boperate_42, oi_37, oi_47, P_put, P_raise, P_reckon]; try dsimp only
      refine ⟨fun h1 => ?_, fun h1 => ?_⟩
      · apply hB
        dsimp only [rgo, rfd, Boperate, Nat.beq, rwp, rst, lv_args, rlk, rs1, rs2, rdl, rky, rct, rcs, rcd, rno, rsw, Value.category, List.filter, List.take, List.drop, List.reverse, List.reverseAux, List.cons_append, List.nil_append, Option.toList, Int.toNat, Int.reduceToNat, if_pos, if_neg, reduceIte, ↓reduceIte, Nat.reduceAdd, Nat.reduceEqDiff, Nat.reduceBEq, beq_self_eq_true, Bool.not_true, Bool.not_false, Bool.and_true, Bool.and_false, Bool.true_and, Bool.false_and, gI_sI, gI_sL, gI_sA, gI_sM, gL_sI, gL_sL, gL_sA, gL_sM, aI_sI, aI_sL, aI_sA, aI_sM, aL_sI, aL_sL, aL_sA, aL_sM, Boperate_0, Boperate_6, Boperate_12, Boperate_19, Boperate_29, Boperate_42, oi_37, oi_47, P_put, P_raise, P_reckon]; try dsimp only
        refine ⟨fun h2 => ?_, fun h2 => ?_⟩
        · apply hB
          dsimp only [rgo, rfd, Boperate, Nat.beq, rwp, rst, lv_args, rlk, rs1, rs2, rdl, rky, rct, rcs, rcd, rno, rsw, Value.category, List.filter, List.take, List.drop, List.reverse, List.reverseAux, List.cons_append, List.nil_append, Option.toList, Int.toNat, Int.reduceToNat, if_pos, if_neg, reduceIte, ↓reduceIte, Nat.reduceAdd, Nat.reduceEqDiff, Nat.reduceBEq, beq_self_eq_true, Bool.not_true, Bool.not_false, Bool.and_true, Bool.and_false, Bool.true_and, Bool.false_and, gI_sI, gI_sL, gI_sA, gI_sM, gL_sI, gL_sL, gL_sA, gL_sM, aI_sI, aI_sL, aI_sA, aI_sM, aL_sI, aL_sL, aL_sA, aL_sM, Boperate_0, Boperate_6, Boperate_12, Boperate_19, Boperate_29, Boperate_42, oi_37, oi_47, P_put, P_raise, P_reckon]; try dsimp only
          refine ⟨rfl, (by decide), (by intro hs hb; subst hb; have hl : lg_cmp 0 0 = 0 := (by first | rfl | decide); first | contradiction | (exfalso; lia)), fun w3 τ3 hq3 => ?_⟩
          obtain ⟨r3, rfl, e3⟩ := hq3
          obtain rfl := e3.symm
          dsimp only [Option.toList, List.cons_append, List.nil_append, Nat.beq, gI_sI, gI_sL, gI_sA, gI_sM, gL_sI, gL_sL, gL_sA, gL_sM, aI_sI, aI_sL, aI_sA, aI_sM, aL_sI, aL_sL, aL_sA, aL_sM]
          refine ⟨rfl, (by decide), (⟨by lia, by lia⟩), fun w4 τ4 hq4 => ?_⟩
          obtain ⟨rfl, f4, e4⟩ := hq4
          obtain rfl := e4.symm
          dsimp only [Option.toList, List.cons_append, List.nil_append, Nat.beq, gI_sI, gI_sL, gI_sA, gI_sM, gL_sI, gL_sL, gL_sA, gL_sM, aI_sI, aI_sL, aI_sA, aI_sM, aL_sI, aL_sL, aL_sA, aL_sM]
          apply hB
          dsimp only [rgo, rfd, Boperate, Nat.beq, rwp, rst, lv_args, rlk, rs1, rs2, rdl, rky, rct, rcs, rcd, rno, rsw, Value.category, List.filter, List.take, List.drop, List.reverse, List.reverseAux, List.cons_append, List.nil_append, Option.toList, Int.toNat, Int.reduceToNat, if_pos, if_neg, reduceIte, ↓reduceIte, Nat.reduceAdd, Nat.reduceEqDiff, Nat.reduceBEq, beq_self_eq_true, Bool.not_true, Bool.not_false, Bool.and_true, Bool.and_false, Bool.true_and, Bool.false_and, gI_sI, gI_sL, gI_sA, gI_sM, gL_sI, gL_sL, gL_sA, gL_sM, aI_sI, aI_sL, aI_sA, aI_sM, aL_sI, aL_sL, aL_sA, aL_sM, Boperate_0, Boperate_6, Boperate_12, Boperate_19, Boperate_29, Boperate_42, oi_37, oi_47, P_put, P_raise, P_reckon]; try dsimp only
          exact ⟨rfl, Or.inr ⟨_, rfl⟩⟩
        · apply hB
          dsimp only [rgo, rfd, Boperate, Nat.beq, rwp, rst, lv_args, rlk, rs1, rs2, rdl, rky, rct, rcs, rcd, rno, rsw, Value.category, List.filter, List.take, List.drop, List.reverse, List.reverseAux, List.cons_append, List.nil_append, Option.toList, Int.toNat, Int.reduceToNat, if_pos, if_neg, reduceIte, ↓reduceIte, Nat.reduceAdd, Nat.reduceEqDiff, Nat.reduceBEq, beq_self_eq_true, Bool.not_true, Bool.not_false, Bool.and_true, Bool.and_false, Bool.true_and, Bool.false_and, gI_sI, gI_sL, gI_sA, gI_sM, gL_sI, gL_sL, gL_sA, gL_sM, aI_sI, aI_sL, aI_sA, aI_sM, aL_sI, aL_sL, aL_sA, aL_sM, Boperate_0, Boperate_6, Boperate_12, Boperate_19, Boperate_29, Boperate_42, oi_37, oi_47, P_put, P_raise, P_reckon]; try dsimp only
          refine ⟨rfl, (by decide), (hR), fun w5 τ5 hq5 => ?_⟩
          have hw5 := hq5.1
          subst hw5
          dsimp only [Option.toList, List.cons_append, List.nil_append, Nat.beq, gI_sI, gI_sL, gI_sA, gI_sM, gL_sI, gL_sL, gL_sA, gL_sM, aI_sI, aI_sL, aI_sA, aI_sM, aL_sI, aL_sL, aL_sA, aL_sM]
          apply hB
          dsimp only [rgo, rfd, Boperate, Nat.beq, rwp, rst, lv_args, rlk, rs1, rs2, rdl, rky, rct, rcs, rcd, rno, rsw, Value.category, List.filter, List.take, List.drop, List.reverse, List.reverseAux, List.cons_append, List.nil_append, Option.toList, Int.toNat, Int.reduceToNat, if_pos, if_neg, reduceIte, ↓reduceIte, Nat.reduceAdd, Nat.reduceEqDiff, Nat.reduceBEq, beq_self_eq_true, Bool.not_true, Bool.not_false, Bool.and_true, Bool.and_false, Bool.true_and, Bool.false_and, gI_sI, gI_sL, gI_sA, gI_sM, gL_sI, gL_sL, gL_sA, gL_sM, aI_sI, aI_sL, aI_sA, aI_sM, aL_sI, aL_sL, aL_sA, aL_sM, Boperate_0, Boperate_6, Boperate_12, Boperate_19, Boperate_29, Boperate_42, oi_37, oi_47, P_put, P_raise, P_reckon]; try dsimp only
          exact ⟨rfl, Or.inl hq5.2⟩
      · apply hB
        dsimp only [rgo, rfd, Boperate, Nat.beq, rwp, rst, lv_args, rlk, rs1, rs2, rdl, rky, rct, rcs, rcd, rno, rsw, Value.category, List.filter, List.take, List.drop, List.reverse, List.reverseAux, List.cons_append, List.nil_append, Option.toList, Int.toNat, Int.reduceToNat, if_pos, if_neg, reduceIte, ↓reduceIte, Nat.reduceAdd, Nat.reduceEqDiff, Nat.reduceBEq, beq_self_eq_true, Bool.not_true, Bool.not_false, Bool.and_true, Bool.and_false, Bool.true_and, Bool.false_and, gI_sI, gI_sL, gI_sA, gI_sM, gL_sI, gL_sL, gL_sA, gL_sM, aI_sI, aI_sL, aI_sA, aI_sM, aL_sI, aL_sL, aL_sA, aL_sM, Boperate_0, Boperate_6, Boperate_12, Boperate_19, Boperate_29, Boperate_42, oi_37, oi_47, P_put, P_raise, P_reckon]; try dsimp only
        refine ⟨fun h6 => ?_, fun h6 => ?_⟩
        · apply hB
          dsimp only [rgo, rfd, Boperate, Nat.beq, rwp, rst, lv_args, rlk, rs1, rs2, rdl, rky, rct, rcs, rcd, rno, rsw, Value.category, List.filter, List.take, List.drop, List.reverse, List.reverseAux, List.cons_append, List.nil_append, Option.toList, Int.toNat, Int.reduceToNat, if_pos, if_neg, reduceIte, ↓reduceIte, Nat.reduceAdd, Nat.reduceEqDiff, Nat.reduceBEq, beq_self_eq_true, Bool.not_true, Bool.not_false, Bool.and_true, Bool.and_false, Bool.true_and, Bool.false_and, gI_sI, gI_sL, gI_sA, gI_sM, gL_sI, gL_sL, gL_sA, gL_sM, aI_sI, aI_sL, aI_sA, aI_sM, aL_sI, aL_sL, aL_sA, aL_sM, Boperate_0, Boperate_6, Boperate_12, Boperate_19, Boperate_29, Boperate_42, oi_37, oi_47, P_put, P_raise, P_reckon]; try dsimp only
          refine ⟨rfl, (by decide), (by intro hs hb; subst hb; have hl : lg_cmp 0 0 = 0 := (by first | rfl | decide); first | contradiction | (exfalso; lia)), fun w7 τ7 hq7 => ?_⟩
          obtain ⟨r7, rfl, e7⟩ := hq7
          obtain rfl := e7.symm
          dsimp only [Option.toList, List.cons_append, List.nil_append, Nat.beq, gI_sI, gI_sL, gI_sA, gI_sM, gL_sI, gL_sL, gL_sA, gL_sM, aI_sI, aI_sL, aI_sA, aI_sM, aL_sI, aL_sL, aL_sA, aL_sM]
          refine ⟨rfl, (by decide), (⟨by lia, by lia⟩), fun w8 τ8 hq8 => ?_⟩
          obtain ⟨rfl, f8, e8⟩ := hq8
          obtain rfl := e8.symm
          dsimp only [Option.toList, List.cons_append, List.nil_append, Nat.beq, gI_sI, gI_sL, gI_sA, gI_sM, gL_sI, gL_sL, gL_sA, gL_sM, aI_sI, aI_sL, aI_sA, aI_sM, aL_sI, aL_sL, aL_sA, aL_sM]
          apply hB
          dsimp only [rgo, rfd, Boperate, Nat.beq, rwp, rst, lv_args, rlk, rs1, rs2, rdl, rky, rct, rcs, rcd, rno, rsw, Value.category, List.filter, List.take, List.drop, List.reverse, List.reverseAux, List.cons_append, List.nil_append, Option.toList, Int.toNat, Int.reduceToNat, if_pos, if_neg, reduceIte, ↓reduceIte, Nat.reduceAdd, Nat.reduceEqDiff, Nat.reduceBEq, beq_self_eq_true, Bool.not_true, Bool.not_false, Bool.and_true, Bool.and_false, Bool.true_and, Bool.false_and, gI_sI, gI_sL, gI_sA, gI_sM, gL_sI, gL_sL, gL_sA, gL_sM, aI_sI, aI_sL, aI_sA, aI_sM, aL_sI, aL_sL, aL_sA, aL_sM, Boperate_0, Boperate_6, Boperate_12, Boperate_19, Boperate_29, Boperate_42, oi_37, oi_47, P_put, P_raise, P_reckon]; try dsimp only
          exact ⟨rfl, Or.inr ⟨_, rfl⟩⟩
        · apply hB
          dsimp only [rgo, rfd, Boperate, Nat.beq, rwp, rst, lv_args, rlk, rs1, rs2, rdl, rky, rct, rcs, rcd, rno, rsw, Value.category, List.filter, List.take, List.drop, List.reverse, List.reverseAux, List.cons_append, List.nil_append, Option.toList, Int.toNat, Int.reduceToNat, if_pos, if_neg, reduceIte, ↓reduceIte, Nat.reduceAdd, Nat.reduceEqDiff, Nat.reduceBEq, beq_self_eq_true, Bool.not_true, Bool.not_false, Bool.and_true, Bool.and_false, Bool.true_and, Bool.false_and, gI_sI, gI_sL, gI_sA, gI_sM, gL_sI, gL_sL, gL_sA, gL_sM, aI_sI, aI_sL, aI_sA, aI_sM, aL_sI, aL_sL, aL_sA, aL_sM, Boperate_0, Boperate_6, Boperate_12, Boperate_19, Boperate_29, Boperate_42, oi_37, oi_47, P_put, P_raise, P_reckon]; try dsimp only
          refine ⟨fun h9 => ?_, fun h9 => ?_⟩
          · apply hB
            dsimp only [rgo, rfd, Boperate, Nat.beq, rwp, rst, lv_args, rlk, rs1, rs2, rdl, rky, rct, rcs, rcd, rno, rsw, Value.category, List.filter, List.take, List.drop, List.reverse, List.reverseAux, List.cons_append, List.nil_append, Option.toList, Int.toNat, Int.reduceToNat, if_pos, if_neg, reduceIte, ↓reduceIte, Nat.reduceAdd, Nat.reduceEqDiff, Nat.reduceBEq, beq_self_eq_true, Bool.not_true, Bool.not_false, Bool.and_true, Bool.and_false, Bool.true_and, Bool.false_and, gI_sI, gI_sL, gI_sA, gI_sM, gL_sI, gL_sL, gL_sA, gL_sM, aI_sI, aI_sL, aI_sA, aI_sM, aL_sI, aL_sL, aL_sA, aL_sM, Boperate_0, Boperate_6, Boperate_12, Boperate_19, Boperate_29, Boperate_42, oi_37, oi_47, P_put, P_raise, P_reckon]; try dsimp only
            refine ⟨rfl, (by decide), (by intro hs hb; subst hb; have hl : lg_cmp 0 0 = 0 := (by first | rfl | decide); first | contradiction | (exfalso; lia)), fun w10 τ10 hq10 => ?_⟩
            obtain ⟨r10, rfl, e10⟩ := hq10
            obtain rfl := e10.symm
            dsimp only [Option.toList, List.cons_append, List.nil_append, Nat.beq, gI_sI, gI_sL, gI_sA, gI_sM, gL_sI, gL_sL, gL_sA, gL_sM, aI_sI, aI_sL, aI_sA, aI_sM, aL_sI, aL_sL, aL_sA, aL_sM]
            refine ⟨rfl, (by decide), (⟨by lia, by lia⟩), fun w11 τ11 hq11 => ?_⟩
            obtain ⟨rfl, f11, e11⟩ := hq11
            obtain rfl := e11.symm
            dsimp only [Option.toList, List.cons_append, List.nil_append, Nat.beq, gI_sI, gI_sL, gI_sA, gI_sM, gL_sI, gL_sL, gL_sA, gL_sM, aI_sI, aI_sL, aI_sA, aI_sM, aL_sI, aL_sL, aL_sA, aL_sM]
            apply hB
            dsimp only [rgo, rfd, Boperate, Nat.beq, rwp, rst, lv_args, rlk, rs1, rs2, rdl, rky, rct, rcs, rcd, rno, rsw, Value.category, List.filter, List.take, List.drop, List.reverse, List.reverseAux, List.cons_append, List.nil_append, Option.toList, Int.toNat, Int.reduceToNat, if_pos, if_neg, reduceIte, ↓reduceIte, Nat.reduceAdd, Nat.reduceEqDiff, Nat.reduceBEq, beq_self_eq_true, Bool.not_true, Bool.not_false, Bool.and_true, Bool.and_false, Bool.true_and, Bool.false_and, gI_sI, gI_sL, gI_sA, gI_sM, gL_sI, gL_sL, gL_sA, gL_sM, aI_sI, aI_sL, aI_sA, aI_sM, aL_sI, aL_sL, aL_sA, aL_sM, Boperate_0, Boperate_6, Boperate_12, Boperate_19, Boperate_29, Boperate_42, oi_37, oi_47, P_put, P_raise, P_reckon]; try dsimp only
            exact ⟨rfl, Or.inr ⟨_, rfl⟩⟩
          · apply hB
            dsimp only [rgo, rfd, Boperate, Nat.beq, rwp, rst, lv_args, rlk, rs1, rs2, rdl, rky, rct, rcs, rcd, rno, rsw, Value.category, List.filter, List.take, List.drop, List.reverse, List.reverseAux, List.cons_append, List.nil_append, Option.toList, Int.toNat, Int.reduceToNat, if_pos, if_neg, reduceIte, ↓reduceIte, Nat.reduceAdd, Nat.reduceEqDiff, Nat.reduceBEq, beq_self_eq_true, Bool.not_true, Bool.not_false, Bool.and_true, Bool.and_false, Bool.true_and, Bool.false_and, gI_sI, gI_sL, gI_sA, gI_sM, gL_sI, gL_sL, gL_sA, gL_sM, aI_sI, aI_sL, aI_sA, aI_sM, aL_sI, aL_sL, aL_sA, aL_sM, Boperate_0, Boperate_6, Boperate_12, Boperate_19, Boperate_29, Boperate_42, oi_37, oi_47, P_put, P_raise, P_reckon]; try dsimp only
            refine ⟨rfl, (by decide), (hR), fun w12 τ12 hq12 => ?_⟩
            have hw12 := hq12.1
            subst hw12
            dsimp only [Option.toList, List.cons_append, List.nil_append, Nat.beq, gI_sI, gI_sL, gI_sA, gI_sM, gL_sI, gL_sL, gL_sA, gL_sM, aI_sI, aI_sL, aI_sA, aI_sM, aL_sI, aL_sL, aL_sA, aL_sM]
            apply hB
            dsimp only [rgo, rfd, Boperate, Nat.beq, rwp, rst, lv_args, rlk, rs1, rs2, rdl, rky, rct, rcs, rcd, rno, rsw, Value.category, List.filter, List.take, List.drop, List.reverse, List.reverseAux, List.cons_append, List.nil_append, Option.toList, Int.toNat, Int.reduceToNat, if_pos, if_neg, reduceIte, ↓reduceIte, Nat.reduceAdd, Nat.reduceEqDiff, Nat.reduceBEq, beq_self_eq_true, Bool.not_true, Bool.not_false, Bool.and_true, Bool.and_false, Bool.true_and, Bool.false_and, gI_sI, gI_sL, gI_sA, gI_sM, gL_sI, gL_sL, gL_sA, gL_sM, aI_sI, aI_sL, aI_sA, aI_sM, aL_sI, aL_sL, aL_sA, aL_sM, Boperate_0, Boperate_6, Boperate_12, Boperate_19, Boperate_29, Boperate_42, oi_37, oi_47, P_put, P_raise, P_reckon]; try dsimp only
            exact ⟨rfl, Or.inl hq12.2⟩
    next => exact hP.elim
def P_choose : RP := fun As σ => match As with
  | [.int k, .long v] => (0 ≤ k ∧ k < 600) ∧ (0 ≤ aI σ 51 k.toNatClampNeg ∧ aI σ 51 k.toNatClampNeg ≤ 3020) ∧ (0 ≤ (aI σ 55 k.toNatClampNeg) ∧ (aI σ 55 k.toNatClampNeg) < 3020)
  | _ => False
def Q_choose : RQ := fun As σ w τ => match As with
  | [.int k, .long v] => w = none ∧ ∃ p, τ = sI σ 141 p ∧ ((0 ≤ aI σ 59 k.toNatClampNeg ∧ p = aI σ 59 k.toNatClampNeg + 1) ∨ (aI σ 59 k.toNatClampNeg < 0 ∧ p = (aI σ 55 k.toNatClampNeg) + 1) ∨ ∃ c, (0 ≤ c ∧ c < (aI σ 55 k.toNatClampNeg)) ∧ aI σ 19 c.toNatClampNeg = 38 ∧ aI σ 20 c.toNatClampNeg = k ∧ p = c + 1)
  | _ => False
set_option maxRecDepth 100000 in
set_option maxHeartbeats 4000000 in
theorem m_choose (l : Launch) : RMet l 1 159 P_choose Q_choose := by
  refine RMet.by Bchoose [] rochoose okBchoose ct0 ?_ ?_
  · intro As σ hP
    unfold P_choose at hP
    split at hP
    next => exact Nat.le_of_ble_eq_true rfl
    next => exact hP.elim
  · intro As σ hP G hB hW
    unfold P_choose at hP
    split at hP
    next k v => 
      unfold Q_choose at hB
      dsimp only at hB
      obtain ⟨hk6, ⟨hf0, hf1⟩, hE0, hE1⟩ := hP
      have t40 : ∀ p : Int32, ((0 ≤ aI σ 59 k.toNatClampNeg ∧ p = aI σ 59 k.toNatClampNeg + 1) ∨ (aI σ 59 k.toNatClampNeg < 0 ∧ p = (aI σ 55 k.toNatClampNeg) + 1)) → G 40 [(0, .ref 1000), (1, .int k), (2, .long v), (4, .int (aI σ 51 k.toNatClampNeg))] [] (sI σ 141 p) := by
        intro p hp
        have loop : ∀ n : Nat, ∀ c : Int32, (4000 - c.toInt).toNat = n → (0 ≤ c ∧ c ≤ 3020) → G 40 [(0, .ref 1000), (1, .int k), (2, .long v), (4, .int c)] [] (sI σ 141 p) := by
          intro n
          induction n using Nat.strongRecOn with
          | ind n loop =>
            intro c hk hc
            apply hB
            dsimp only [rgo, rfd, Bchoose, Nat.beq, rwp, rst, lv_args, rlk, rs1, rs2, rdl, rky, rct, rcs, rcd, rno, rsw, Value.category, List.filter, List.take, List.drop, List.reverse, List.reverseAux, List.cons_append, List.nil_append, Option.toList, Int.toNat, Int.reduceToNat, if_pos, if_neg, reduceIte, ↓reduceIte, Nat.reduceAdd, Nat.reduceEqDiff, Nat.reduceBEq, beq_self_eq_true, Bool.not_true, Bool.not_false, Bool.and_true, Bool.and_false, Bool.true_and, Bool.false_and, gI_sI, gI_sL, gI_sA, gI_sM, gL_sI, gL_sL, gL_sA, gL_sM, aI_sI, aI_sL, aI_sA, aI_sM, aL_sI, aL_sL, aL_sA, aL_sM, Bchoose_0, Bchoose_10, Bchoose_21, Bchoose_29, Bchoose_40, Bchoose_51, Bchoose_63, Bchoose_74, Bchoose_86, Bchoose_95, Bchoose_101, oi_1, oi_38]; try dsimp only
            refine ⟨rfl, rfl, (in_55 (by lia) (by lia)), fun h1 => ?_, fun h1 => ?_⟩
            · apply hB
              dsimp only [rgo, rfd, Bchoose, Nat.beq, rwp, rst, lv_args, rlk, rs1, rs2, rdl, rky, rct, rcs, rcd, rno, rsw, Value.category, List.filter, List.take, List.drop, List.reverse, List.reverseAux, List.cons_append, List.nil_append, Option.toList, Int.toNat, Int.reduceToNat, if_pos, if_neg, reduceIte, ↓reduceIte, Nat.reduceAdd, Nat.reduceEqDiff, Nat.reduceBEq, beq_self_eq_true, Bool.not_true, Bool.not_false, Bool.and_true, Bool.and_false, Bool.true_and, Bool.false_and, gI_sI, gI_sL, gI_sA, gI_sM, gL_sI, gL_sL, gL_sA, gL_sM, aI_sI, aI_sL, aI_sA, aI_sM, aL_sI, aL_sL, aL_sA, aL_sM, Bchoose_0, Bchoose_10, Bchoose_21, Bchoose_29, Bchoose_40, Bchoose_51, Bchoose_63, Bchoose_74, Bchoose_86, Bchoose_95, Bchoose_101, oi_1, oi_38]; try dsimp only
              exact ⟨rfl, p, rfl, by rcases hp with q | q; exact Or.inl q; exact Or.inr (Or.inl q)⟩
            · apply hB
              dsimp only [rgo, rfd, Bchoose, Nat.beq, rwp, rst, lv_args, rlk, rs1, rs2, rdl, rky, rct, rcs, rcd, rno, rsw, Value.category, List.filter, List.take, List.drop, List.reverse, List.reverseAux, List.cons_append, List.nil_append, Option.toList, Int.toNat, Int.reduceToNat, if_pos, if_neg, reduceIte, ↓reduceIte, Nat.reduceAdd, Nat.reduceEqDiff, Nat.reduceBEq, beq_self_eq_true, Bool.not_true, Bool.not_false, Bool.and_true, Bool.and_false, Bool.true_and, Bool.false_and, gI_sI, gI_sL, gI_sA, gI_sM, gL_sI, gL_sL, gL_sA, gL_sM, aI_sI, aI_sL, aI_sA, aI_sM, aL_sI, aL_sL, aL_sA, aL_sM, Bchoose_0, Bchoose_10, Bchoose_21, Bchoose_29, Bchoose_40, Bchoose_51, Bchoose_63, Bchoose_74, Bchoose_86, Bchoose_95, Bchoose_101, oi_1, oi_38]; try dsimp only
              refine ⟨rfl, rfl, (in_19 (by lia) (by lia)), fun h2 => ?_, fun h2 => ?_⟩
              · apply hB
                dsimp only [rgo, rfd, Bchoose, Nat.beq, rwp, rst, lv_args, rlk, rs1, rs2, rdl, rky, rct, rcs, rcd, rno, rsw, Value.category, List.filter, List.take, List.drop, List.reverse, List.reverseAux, List.cons_append, List.nil_append, Option.toList, Int.toNat, Int.reduceToNat, if_pos, if_neg, reduceIte, ↓reduceIte, Nat.reduceAdd, Nat.reduceEqDiff, Nat.reduceBEq, beq_self_eq_true, Bool.not_true, Bool.not_false, Bool.and_true, Bool.and_false, Bool.true_and, Bool.false_and, gI_sI, gI_sL, gI_sA, gI_sM, gL_sI, gL_sL, gL_sA, gL_sM, aI_sI, aI_sL, aI_sA, aI_sM, aL_sI, aL_sL, aL_sA, aL_sM, Bchoose_0, Bchoose_10, Bchoose_21, Bchoose_29, Bchoose_40, Bchoose_51, Bchoose_63, Bchoose_74, Bchoose_86, Bchoose_95, Bchoose_101, oi_1, oi_38]; try dsimp only
                refine hW 40 [(0, .ref 1000), (1, .int k), (2, .long v), (4, .int (c + 1))] _ _ _ (by simp [rdl, rky]) (loop _ ?_ (c + 1) rfl ⟨by lia, by lia⟩)
                exact mlt4 hk (by lia) (by lia)
              · apply hB
                dsimp only [rgo, rfd, Bchoose, Nat.beq, rwp, rst, lv_args, rlk, rs1, rs2, rdl, rky, rct, rcs, rcd, rno, rsw, Value.category, List.filter, List.take, List.drop, List.reverse, List.reverseAux, List.cons_append, List.nil_append, Option.toList, Int.toNat, Int.reduceToNat, if_pos, if_neg, reduceIte, ↓reduceIte, Nat.reduceAdd, Nat.reduceEqDiff, Nat.reduceBEq, beq_self_eq_true, Bool.not_true, Bool.not_false, Bool.and_true, Bool.and_false, Bool.true_and, Bool.false_and, gI_sI, gI_sL, gI_sA, gI_sM, gL_sI, gL_sL, gL_sA, gL_sM, aI_sI, aI_sL, aI_sA, aI_sM, aL_sI, aL_sL, aL_sA, aL_sM, Bchoose_0, Bchoose_10, Bchoose_21, Bchoose_29, Bchoose_40, Bchoose_51, Bchoose_63, Bchoose_74, Bchoose_86, Bchoose_95, Bchoose_101, oi_1, oi_38]; try dsimp only
                refine ⟨rfl, rfl, (in_20 (by lia) (by lia)), fun h3 => ?_, fun h3 => ?_⟩
                · apply hB
                  dsimp only [rgo, rfd, Bchoose, Nat.beq, rwp, rst, lv_args, rlk, rs1, rs2, rdl, rky, rct, rcs, rcd, rno, rsw, Value.category, List.filter, List.take, List.drop, List.reverse, List.reverseAux, List.cons_append, List.nil_append, Option.toList, Int.toNat, Int.reduceToNat, if_pos, if_neg, reduceIte, ↓reduceIte, Nat.reduceAdd, Nat.reduceEqDiff, Nat.reduceBEq, beq_self_eq_true, Bool.not_true, Bool.not_false, Bool.and_true, Bool.and_false, Bool.true_and, Bool.false_and, gI_sI, gI_sL, gI_sA, gI_sM, gL_sI, gL_sL, gL_sA, gL_sM, aI_sI, aI_sL, aI_sA, aI_sM, aL_sI, aL_sL, aL_sA, aL_sM, Bchoose_0, Bchoose_10, Bchoose_21, Bchoose_29, Bchoose_40, Bchoose_51, Bchoose_63, Bchoose_74, Bchoose_86, Bchoose_95, Bchoose_101, oi_1, oi_38]; try dsimp only
                  refine hW 40 [(0, .ref 1000), (1, .int k), (2, .long v), (4, .int (c + 1))] _ _ _ (by simp [rdl, rky]) (loop _ ?_ (c + 1) rfl ⟨by lia, by lia⟩)
                  exact mlt4 hk (by lia) (by lia)
                · apply hB
                  dsimp only [rgo, rfd, Bchoose, Nat.beq, rwp, rst, lv_args, rlk, rs1, rs2, rdl, rky, rct, rcs, rcd, rno, rsw, Value.category, List.filter, List.take, List.drop, List.reverse, List.reverseAux, List.cons_append, List.nil_append, Option.toList, Int.toNat, Int.reduceToNat, if_pos, if_neg, reduceIte, ↓reduceIte, Nat.reduceAdd, Nat.reduceEqDiff, Nat.reduceBEq, beq_self_eq_true, Bool.not_true, Bool.not_false, Bool.and_true, Bool.and_false, Bool.true_and, Bool.false_and, gI_sI, gI_sL, gI_sA, gI_sM, gL_sI, gL_sL, gL_sA, gL_sM, aI_sI, aI_sL, aI_sA, aI_sM, aL_sI, aL_sL, aL_sA, aL_sM, Bchoose_0, Bchoose_10, Bchoose_21, Bchoose_29, Bchoose_40, Bchoose_51, Bchoose_63, Bchoose_74, Bchoose_86, Bchoose_95, Bchoose_101, oi_1, oi_38]; try dsimp only
                  refine ⟨rfl, rfl, (in_85 (by lia) (by lia)), fun h4 => ?_, fun h4 => ?_⟩
                  · apply hB
                    dsimp only [rgo, rfd, Bchoose, Nat.beq, rwp, rst, lv_args, rlk, rs1, rs2, rdl, rky, rct, rcs, rcd, rno, rsw, Value.category, List.filter, List.take, List.drop, List.reverse, List.reverseAux, List.cons_append, List.nil_append, Option.toList, Int.toNat, Int.reduceToNat, if_pos, if_neg, reduceIte, ↓reduceIte, Nat.reduceAdd, Nat.reduceEqDiff, Nat.reduceBEq, beq_self_eq_true, Bool.not_true, Bool.not_false, Bool.and_true, Bool.and_false, Bool.true_and, Bool.false_and, gI_sI, gI_sL, gI_sA, gI_sM, gL_sI, gL_sL, gL_sA, gL_sM, aI_sI, aI_sL, aI_sA, aI_sM, aL_sI, aL_sL, aL_sA, aL_sM, Bchoose_0, Bchoose_10, Bchoose_21, Bchoose_29, Bchoose_40, Bchoose_51, Bchoose_63, Bchoose_74, Bchoose_86, Bchoose_95, Bchoose_101, oi_1, oi_38]; try dsimp only
                    refine hW 40 [(0, .ref 1000), (1, .int k), (2, .long v), (4, .int (c + 1))] _ _ _ (by simp [rdl, rky]) (loop _ ?_ (c + 1) rfl ⟨by lia, by lia⟩)
                    exact mlt4 hk (by lia) (by lia)
                  · apply hB
                    dsimp only [rgo, rfd, Bchoose, Nat.beq, rwp, rst, lv_args, rlk, rs1, rs2, rdl, rky, rct, rcs, rcd, rno, rsw, Value.category, List.filter, List.take, List.drop, List.reverse, List.reverseAux, List.cons_append, List.nil_append, Option.toList, Int.toNat, Int.reduceToNat, if_pos, if_neg, reduceIte, ↓reduceIte, Nat.reduceAdd, Nat.reduceEqDiff, Nat.reduceBEq, beq_self_eq_true, Bool.not_true, Bool.not_false, Bool.and_true, Bool.and_false, Bool.true_and, Bool.false_and, gI_sI, gI_sL, gI_sA, gI_sM, gL_sI, gL_sL, gL_sA, gL_sM, aI_sI, aI_sL, aI_sA, aI_sM, aL_sI, aL_sL, aL_sA, aL_sM, Bchoose_0, Bchoose_10, Bchoose_21, Bchoose_29, Bchoose_40, Bchoose_51, Bchoose_63, Bchoose_74, Bchoose_86, Bchoose_95, Bchoose_101, oi_1, oi_38]; try dsimp only
                    refine ⟨rfl, ?_⟩
                    exact ⟨rfl, c + 1, by rw [sI_sI], Or.inr (Or.inr ⟨c, ⟨by lia, by lia⟩, by lia, by lia, rfl⟩)⟩
        exact loop _ _ rfl ⟨hf0, hf1⟩
      apply hB
      dsimp only [rgo, rfd, Bchoose, Nat.beq, rwp, rst, lv_args, rlk, rs1, rs2, rdl, rky, rct, rcs, rcd, rno, rsw, Value.category, List.filter, List.take, List.drop, List.reverse, List.reverseAux, List.cons_append, List.nil_append, Option.toList, Int.toNat, Int.reduceToNat, if_pos, if_neg, reduceIte, ↓reduceIte, Nat.reduceAdd, Nat.reduceEqDiff, Nat.reduceBEq, beq_self_eq_true, Bool.not_true, Bool.not_false, Bool.and_true, Bool.and_false, Bool.true_and, Bool.false_and, gI_sI, gI_sL, gI_sA, gI_sM, gL_sI, gL_sL, gL_sA, gL_sM, aI_sI, aI_sL, aI_sA, aI_sM, aL_sI, aL_sL, aL_sA, aL_sM, Bchoose_0, Bchoose_10, Bchoose_21, Bchoose_29, Bchoose_40, Bchoose_51, Bchoose_63, Bchoose_74, Bchoose_86, Bchoose_95, Bchoose_101, oi_1, oi_38]; try dsimp only
      refine ⟨rfl, rfl, (in_59 (by lia) (by lia)), fun h1 => ?_, fun h1 => ?_⟩
      · apply hB
        dsimp only [rgo, rfd, Bchoose, Nat.beq, rwp, rst, lv_args, rlk, rs1, rs2, rdl, rky, rct, rcs, rcd, rno, rsw, Value.category, List.filter, List.take, List.drop, List.reverse, List.reverseAux, List.cons_append, List.nil_append, Option.toList, Int.toNat, Int.reduceToNat, if_pos, if_neg, reduceIte, ↓reduceIte, Nat.reduceAdd, Nat.reduceEqDiff, Nat.reduceBEq, beq_self_eq_true, Bool.not_true, Bool.not_false, Bool.and_true, Bool.and_false, Bool.true_and, Bool.false_and, gI_sI, gI_sL, gI_sA, gI_sM, gL_sI, gL_sL, gL_sA, gL_sM, aI_sI, aI_sL, aI_sA, aI_sM, aL_sI, aL_sL, aL_sA, aL_sM, Bchoose_0, Bchoose_10, Bchoose_21, Bchoose_29, Bchoose_40, Bchoose_51, Bchoose_63, Bchoose_74, Bchoose_86, Bchoose_95, Bchoose_101, oi_1, oi_38]; try dsimp only
        refine ⟨rfl, rfl, (in_55 (by lia) (by lia)), ?_⟩
        apply hB
        dsimp only [rgo, rfd, Bchoose, Nat.beq, rwp, rst, lv_args, rlk, rs1, rs2, rdl, rky, rct, rcs, rcd, rno, rsw, Value.category, List.filter, List.take, List.drop, List.reverse, List.reverseAux, List.cons_append, List.nil_append, Option.toList, Int.toNat, Int.reduceToNat, if_pos, if_neg, reduceIte, ↓reduceIte, Nat.reduceAdd, Nat.reduceEqDiff, Nat.reduceBEq, beq_self_eq_true, Bool.not_true, Bool.not_false, Bool.and_true, Bool.and_false, Bool.true_and, Bool.false_and, gI_sI, gI_sL, gI_sA, gI_sM, gL_sI, gL_sL, gL_sA, gL_sM, aI_sI, aI_sL, aI_sA, aI_sM, aL_sI, aL_sL, aL_sA, aL_sM, Bchoose_0, Bchoose_10, Bchoose_21, Bchoose_29, Bchoose_40, Bchoose_51, Bchoose_63, Bchoose_74, Bchoose_86, Bchoose_95, Bchoose_101, oi_1, oi_38]; try dsimp only
        refine ⟨rfl, rfl, rfl, (in_51 (by lia) (by lia)), ?_⟩
        exact hW 40 [(0, .ref 1000), (1, .int k), (2, .long v), (4, .int (aI σ 51 k.toNatClampNeg))] _ _ _ (by simp [rdl, rky]) (t40 _ (Or.inr ⟨by lia, rfl⟩))
      · apply hB
        dsimp only [rgo, rfd, Bchoose, Nat.beq, rwp, rst, lv_args, rlk, rs1, rs2, rdl, rky, rct, rcs, rcd, rno, rsw, Value.category, List.filter, List.take, List.drop, List.reverse, List.reverseAux, List.cons_append, List.nil_append, Option.toList, Int.toNat, Int.reduceToNat, if_pos, if_neg, reduceIte, ↓reduceIte, Nat.reduceAdd, Nat.reduceEqDiff, Nat.reduceBEq, beq_self_eq_true, Bool.not_true, Bool.not_false, Bool.and_true, Bool.and_false, Bool.true_and, Bool.false_and, gI_sI, gI_sL, gI_sA, gI_sM, gL_sI, gL_sL, gL_sA, gL_sM, aI_sI, aI_sL, aI_sA, aI_sM, aL_sI, aL_sL, aL_sA, aL_sM, Bchoose_0, Bchoose_10, Bchoose_21, Bchoose_29, Bchoose_40, Bchoose_51, Bchoose_63, Bchoose_74, Bchoose_86, Bchoose_95, Bchoose_101, oi_1, oi_38]; try dsimp only
        refine ⟨rfl, rfl, (in_59 (by lia) (by lia)), ?_⟩
        apply hB
        dsimp only [rgo, rfd, Bchoose, Nat.beq, rwp, rst, lv_args, rlk, rs1, rs2, rdl, rky, rct, rcs, rcd, rno, rsw, Value.category, List.filter, List.take, List.drop, List.reverse, List.reverseAux, List.cons_append, List.nil_append, Option.toList, Int.toNat, Int.reduceToNat, if_pos, if_neg, reduceIte, ↓reduceIte, Nat.reduceAdd, Nat.reduceEqDiff, Nat.reduceBEq, beq_self_eq_true, Bool.not_true, Bool.not_false, Bool.and_true, Bool.and_false, Bool.true_and, Bool.false_and, gI_sI, gI_sL, gI_sA, gI_sM, gL_sI, gL_sL, gL_sA, gL_sM, aI_sI, aI_sL, aI_sA, aI_sM, aL_sI, aL_sL, aL_sA, aL_sM, Bchoose_0, Bchoose_10, Bchoose_21, Bchoose_29, Bchoose_40, Bchoose_51, Bchoose_63, Bchoose_74, Bchoose_86, Bchoose_95, Bchoose_101, oi_1, oi_38]; try dsimp only
        refine ⟨rfl, rfl, rfl, (in_51 (by lia) (by lia)), ?_⟩
        exact hW 40 [(0, .ref 1000), (1, .int k), (2, .long v), (4, .int (aI σ 51 k.toNatClampNeg))] _ _ _ (by simp [rdl, rky]) (t40 _ (Or.inl ⟨by lia, rfl⟩))
    next => exact hP.elim
