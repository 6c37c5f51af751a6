def P_fits : RP := fun As σ => match As with
  | [.int s, .int ty] => 0 ≤ s ∧ s < 700
  | _ => False
def Q_fits : RQ := fun As σ w τ => match As with
  | [.int s, .int ty] => ∃ r : Int32, w = some (.int r) ∧ (r = 0 ∨ (r = 1 ∧ ¬ (aI σ 70 s.toNatClampNeg) = 5)) ∧ τ = σ
  | _ => False
set_option maxRecDepth 100000 in
set_option maxHeartbeats 4000000 in
theorem b_fits : Bod Bfits [(74, P_holdsValue, Q_holdsValue), (73, P_widens, Q_widens)] P_fits Q_fits := by
  · intro As σ hP G hB hW
    unfold P_fits at hP
    split at hP
    next s ty => 
      unfold Q_fits at hB
      dsimp only at hB
      apply hB
      dsimp only [rgo, rfd, Bfits, Nat.beq, rwp, rst, lv_args, rlk, rs1, rs2, rdl, rky, rct, rcs, rcd, rno, rsw, Value.category, List.filter, List.take, List.drop, List.reverse, List.reverseAux, List.cons_append, List.nil_append, Option.toList, Int.toNat, Int.reduceToNat, if_pos, if_neg, reduceIte, ↓reduceIte, Nat.reduceAdd, Nat.reduceEqDiff, Nat.reduceBEq, beq_self_eq_true, Bool.not_true, Bool.not_false, Bool.and_true, Bool.and_false, Bool.true_and, Bool.false_and, gI_sI, gI_sL, gI_sA, gI_sM, gL_sI, gL_sL, gL_sA, gL_sM, aI_sI, aI_sL, aI_sA, aI_sM, aL_sI, aL_sL, aL_sA, aL_sM, Bfits_0, Bfits_10, Bfits_12, Bfits_26, Bfits_28, Bfits_38, Bfits_48, Bfits_53, Bfits_58, Bfits_62, Bfits_63, Bfits_68, Bfits_77, Bfits_91, Bfits_95, Bfits_96, oi_0, oi_1, oi_2, oi_3, oi_5, P_holdsValue, P_widens]; try dsimp only
      refine ⟨rfl, rfl, (in_70 (by lia) (by lia)), fun h1 => ?_, fun h1 => ?_⟩
      · apply hB
        dsimp only [rgo, rfd, Bfits, Nat.beq, rwp, rst, lv_args, rlk, rs1, rs2, rdl, rky, rct, rcs, rcd, rno, rsw, Value.category, List.filter, List.take, List.drop, List.reverse, List.reverseAux, List.cons_append, List.nil_append, Option.toList, Int.toNat, Int.reduceToNat, if_pos, if_neg, reduceIte, ↓reduceIte, Nat.reduceAdd, Nat.reduceEqDiff, Nat.reduceBEq, beq_self_eq_true, Bool.not_true, Bool.not_false, Bool.and_true, Bool.and_false, Bool.true_and, Bool.false_and, gI_sI, gI_sL, gI_sA, gI_sM, gL_sI, gL_sL, gL_sA, gL_sM, aI_sI, aI_sL, aI_sA, aI_sM, aL_sI, aL_sL, aL_sA, aL_sM, Bfits_0, Bfits_10, Bfits_12, Bfits_26, Bfits_28, Bfits_38, Bfits_48, Bfits_53, Bfits_58, Bfits_62, Bfits_63, Bfits_68, Bfits_77, Bfits_91, Bfits_95, Bfits_96, oi_0, oi_1, oi_2, oi_3, oi_5, P_holdsValue, P_widens]; try dsimp only
        refine ⟨rfl, rfl, (in_70 (by lia) (by lia)), rfl, (by decide), (trivial), fun w2 τ2 hq2 => ?_⟩
        obtain ⟨r2, rfl, hr2, e2⟩ := hq2
        obtain rfl := e2.symm
        rcases hr2 with rfl | rfl
        · dsimp only [Option.toList, List.cons_append, List.nil_append, Nat.beq, gI_sI, gI_sL, gI_sA, gI_sM, gL_sI, gL_sL, gL_sA, gL_sM, aI_sI, aI_sL, aI_sA, aI_sM, aL_sI, aL_sL, aL_sA, aL_sM]
          refine ⟨fun h3 => ?_, fun h3 => absurd h3 (by decide)⟩
          clear h3
          apply hB
          dsimp only [rgo, rfd, Bfits, Nat.beq, rwp, rst, lv_args, rlk, rs1, rs2, rdl, rky, rct, rcs, rcd, rno, rsw, Value.category, List.filter, List.take, List.drop, List.reverse, List.reverseAux, List.cons_append, List.nil_append, Option.toList, Int.toNat, Int.reduceToNat, if_pos, if_neg, reduceIte, ↓reduceIte, Nat.reduceAdd, Nat.reduceEqDiff, Nat.reduceBEq, beq_self_eq_true, Bool.not_true, Bool.not_false, Bool.and_true, Bool.and_false, Bool.true_and, Bool.false_and, gI_sI, gI_sL, gI_sA, gI_sM, gL_sI, gL_sL, gL_sA, gL_sM, aI_sI, aI_sL, aI_sA, aI_sM, aL_sI, aL_sL, aL_sA, aL_sM, Bfits_0, Bfits_10, Bfits_12, Bfits_26, Bfits_28, Bfits_38, Bfits_48, Bfits_53, Bfits_58, Bfits_62, Bfits_63, Bfits_68, Bfits_77, Bfits_91, Bfits_95, Bfits_96, oi_0, oi_1, oi_2, oi_3, oi_5, P_holdsValue, P_widens]; try dsimp only
          refine ⟨rfl, rfl, (in_70 (by lia) (by lia)), fun h4 => ?_, fun h4 => ?_⟩
          · apply hB
            dsimp only [rgo, rfd, Bfits, Nat.beq, rwp, rst, lv_args, rlk, rs1, rs2, rdl, rky, rct, rcs, rcd, rno, rsw, Value.category, List.filter, List.take, List.drop, List.reverse, List.reverseAux, List.cons_append, List.nil_append, Option.toList, Int.toNat, Int.reduceToNat, if_pos, if_neg, reduceIte, ↓reduceIte, Nat.reduceAdd, Nat.reduceEqDiff, Nat.reduceBEq, beq_self_eq_true, Bool.not_true, Bool.not_false, Bool.and_true, Bool.and_false, Bool.true_and, Bool.false_and, gI_sI, gI_sL, gI_sA, gI_sM, gL_sI, gL_sL, gL_sA, gL_sM, aI_sI, aI_sL, aI_sA, aI_sM, aL_sI, aL_sL, aL_sA, aL_sM, Bfits_0, Bfits_10, Bfits_12, Bfits_26, Bfits_28, Bfits_38, Bfits_48, Bfits_53, Bfits_58, Bfits_62, Bfits_63, Bfits_68, Bfits_77, Bfits_91, Bfits_95, Bfits_96, oi_0, oi_1, oi_2, oi_3, oi_5, P_holdsValue, P_widens]; try dsimp only
            apply hB
            dsimp only [rgo, rfd, Bfits, Nat.beq, rwp, rst, lv_args, rlk, rs1, rs2, rdl, rky, rct, rcs, rcd, rno, rsw, Value.category, List.filter, List.take, List.drop, List.reverse, List.reverseAux, List.cons_append, List.nil_append, Option.toList, Int.toNat, Int.reduceToNat, if_pos, if_neg, reduceIte, ↓reduceIte, Nat.reduceAdd, Nat.reduceEqDiff, Nat.reduceBEq, beq_self_eq_true, Bool.not_true, Bool.not_false, Bool.and_true, Bool.and_false, Bool.true_and, Bool.false_and, gI_sI, gI_sL, gI_sA, gI_sM, gL_sI, gL_sL, gL_sA, gL_sM, aI_sI, aI_sL, aI_sA, aI_sM, aL_sI, aL_sL, aL_sA, aL_sM, Bfits_0, Bfits_10, Bfits_12, Bfits_26, Bfits_28, Bfits_38, Bfits_48, Bfits_53, Bfits_58, Bfits_62, Bfits_63, Bfits_68, Bfits_77, Bfits_91, Bfits_95, Bfits_96, oi_0, oi_1, oi_2, oi_3, oi_5, P_holdsValue, P_widens]; try dsimp only
            refine ⟨fun h5 => ?_, fun h5 => absurd h5 (by decide)⟩
            clear h5
            apply hB
            dsimp only [rgo, rfd, Bfits, Nat.beq, rwp, rst, lv_args, rlk, rs1, rs2, rdl, rky, rct, rcs, rcd, rno, rsw, Value.category, List.filter, List.take, List.drop, List.reverse, List.reverseAux, List.cons_append, List.nil_append, Option.toList, Int.toNat, Int.reduceToNat, if_pos, if_neg, reduceIte, ↓reduceIte, Nat.reduceAdd, Nat.reduceEqDiff, Nat.reduceBEq, beq_self_eq_true, Bool.not_true, Bool.not_false, Bool.and_true, Bool.and_false, Bool.true_and, Bool.false_and, gI_sI, gI_sL, gI_sA, gI_sM, gL_sI, gL_sL, gL_sA, gL_sM, aI_sI, aI_sL, aI_sA, aI_sM, aL_sI, aL_sL, aL_sA, aL_sM, Bfits_0, Bfits_10, Bfits_12, Bfits_26, Bfits_28, Bfits_38, Bfits_48, Bfits_53, Bfits_58, Bfits_62, Bfits_63, Bfits_68, Bfits_77, Bfits_91, Bfits_95, Bfits_96, oi_0, oi_1, oi_2, oi_3, oi_5, P_holdsValue, P_widens]; try dsimp only
            apply hB
            dsimp only [rgo, rfd, Bfits, Nat.beq, rwp, rst, lv_args, rlk, rs1, rs2, rdl, rky, rct, rcs, rcd, rno, rsw, Value.category, List.filter, List.take, List.drop, List.reverse, List.reverseAux, List.cons_append, List.nil_append, Option.toList, Int.toNat, Int.reduceToNat, if_pos, if_neg, reduceIte, ↓reduceIte, Nat.reduceAdd, Nat.reduceEqDiff, Nat.reduceBEq, beq_self_eq_true, Bool.not_true, Bool.not_false, Bool.and_true, Bool.and_false, Bool.true_and, Bool.false_and, gI_sI, gI_sL, gI_sA, gI_sM, gL_sI, gL_sL, gL_sA, gL_sM, aI_sI, aI_sL, aI_sA, aI_sM, aL_sI, aL_sL, aL_sA, aL_sM, Bfits_0, Bfits_10, Bfits_12, Bfits_26, Bfits_28, Bfits_38, Bfits_48, Bfits_53, Bfits_58, Bfits_62, Bfits_63, Bfits_68, Bfits_77, Bfits_91, Bfits_95, Bfits_96, oi_0, oi_1, oi_2, oi_3, oi_5, P_holdsValue, P_widens]; try dsimp only
            refine ⟨Or.inl rfl, ?_⟩
            exact ⟨_, rfl, Or.inl rfl, rfl⟩
          · apply hB
            dsimp only [rgo, rfd, Bfits, Nat.beq, rwp, rst, lv_args, rlk, rs1, rs2, rdl, rky, rct, rcs, rcd, rno, rsw, Value.category, List.filter, List.take, List.drop, List.reverse, List.reverseAux, List.cons_append, List.nil_append, Option.toList, Int.toNat, Int.reduceToNat, if_pos, if_neg, reduceIte, ↓reduceIte, Nat.reduceAdd, Nat.reduceEqDiff, Nat.reduceBEq, beq_self_eq_true, Bool.not_true, Bool.not_false, Bool.and_true, Bool.and_false, Bool.true_and, Bool.false_and, gI_sI, gI_sL, gI_sA, gI_sM, gL_sI, gL_sL, gL_sA, gL_sM, aI_sI, aI_sL, aI_sA, aI_sM, aL_sI, aL_sL, aL_sA, aL_sM, Bfits_0, Bfits_10, Bfits_12, Bfits_26, Bfits_28, Bfits_38, Bfits_48, Bfits_53, Bfits_58, Bfits_62, Bfits_63, Bfits_68, Bfits_77, Bfits_91, Bfits_95, Bfits_96, oi_0, oi_1, oi_2, oi_3, oi_5, P_holdsValue, P_widens]; try dsimp only
            refine ⟨rfl, rfl, (in_70 (by lia) (by lia)), fun h6 => ?_, fun h6 => ?_⟩
            · apply hB
              dsimp only [rgo, rfd, Bfits, Nat.beq, rwp, rst, lv_args, rlk, rs1, rs2, rdl, rky, rct, rcs, rcd, rno, rsw, Value.category, List.filter, List.take, List.drop, List.reverse, List.reverseAux, List.cons_append, List.nil_append, Option.toList, Int.toNat, Int.reduceToNat, if_pos, if_neg, reduceIte, ↓reduceIte, Nat.reduceAdd, Nat.reduceEqDiff, Nat.reduceBEq, beq_self_eq_true, Bool.not_true, Bool.not_false, Bool.and_true, Bool.and_false, Bool.true_and, Bool.false_and, gI_sI, gI_sL, gI_sA, gI_sM, gL_sI, gL_sL, gL_sA, gL_sM, aI_sI, aI_sL, aI_sA, aI_sM, aL_sI, aL_sL, aL_sA, aL_sM, Bfits_0, Bfits_10, Bfits_12, Bfits_26, Bfits_28, Bfits_38, Bfits_48, Bfits_53, Bfits_58, Bfits_62, Bfits_63, Bfits_68, Bfits_77, Bfits_91, Bfits_95, Bfits_96, oi_0, oi_1, oi_2, oi_3, oi_5, P_holdsValue, P_widens]; try dsimp only
              apply hB
              dsimp only [rgo, rfd, Bfits, Nat.beq, rwp, rst, lv_args, rlk, rs1, rs2, rdl, rky, rct, rcs, rcd, rno, rsw, Value.category, List.filter, List.take, List.drop, List.reverse, List.reverseAux, List.cons_append, List.nil_append, Option.toList, Int.toNat, Int.reduceToNat, if_pos, if_neg, reduceIte, ↓reduceIte, Nat.reduceAdd, Nat.reduceEqDiff, Nat.reduceBEq, beq_self_eq_true, Bool.not_true, Bool.not_false, Bool.and_true, Bool.and_false, Bool.true_and, Bool.false_and, gI_sI, gI_sL, gI_sA, gI_sM, gL_sI, gL_sL, gL_sA, gL_sM, aI_sI, aI_sL, aI_sA, aI_sM, aL_sI, aL_sL, aL_sA, aL_sM, Bfits_0, Bfits_10, Bfits_12, Bfits_26, Bfits_28, Bfits_38, Bfits_48, Bfits_53, Bfits_58, Bfits_62, Bfits_63, Bfits_68, Bfits_77, Bfits_91, Bfits_95, Bfits_96, oi_0, oi_1, oi_2, oi_3, oi_5, P_holdsValue, P_widens]; try dsimp only
              refine ⟨fun h7 => ?_, fun h7 => absurd h7 (by decide)⟩
              clear h7
              apply hB
              dsimp only [rgo, rfd, Bfits, Nat.beq, rwp, rst, lv_args, rlk, rs1, rs2, rdl, rky, rct, rcs, rcd, rno, rsw, Value.category, List.filter, List.take, List.drop, List.reverse, List.reverseAux, List.cons_append, List.nil_append, Option.toList, Int.toNat, Int.reduceToNat, if_pos, if_neg, reduceIte, ↓reduceIte, Nat.reduceAdd, Nat.reduceEqDiff, Nat.reduceBEq, beq_self_eq_true, Bool.not_true, Bool.not_false, Bool.and_true, Bool.and_false, Bool.true_and, Bool.false_and, gI_sI, gI_sL, gI_sA, gI_sM, gL_sI, gL_sL, gL_sA, gL_sM, aI_sI, aI_sL, aI_sA, aI_sM, aL_sI, aL_sL, aL_sA, aL_sM, Bfits_0, Bfits_10, Bfits_12, Bfits_26, Bfits_28, Bfits_38, Bfits_48, Bfits_53, Bfits_58, Bfits_62, Bfits_63, Bfits_68, Bfits_77, Bfits_91, Bfits_95, Bfits_96, oi_0, oi_1, oi_2, oi_3, oi_5, P_holdsValue, P_widens]; try dsimp only
              apply hB
              dsimp only [rgo, rfd, Bfits, Nat.beq, rwp, rst, lv_args, rlk, rs1, rs2, rdl, rky, rct, rcs, rcd, rno, rsw, Value.category, List.filter, List.take, List.drop, List.reverse, List.reverseAux, List.cons_append, List.nil_append, Option.toList, Int.toNat, Int.reduceToNat, if_pos, if_neg, reduceIte, ↓reduceIte, Nat.reduceAdd, Nat.reduceEqDiff, Nat.reduceBEq, beq_self_eq_true, Bool.not_true, Bool.not_false, Bool.and_true, Bool.and_false, Bool.true_and, Bool.false_and, gI_sI, gI_sL, gI_sA, gI_sM, gL_sI, gL_sL, gL_sA, gL_sM, aI_sI, aI_sL, aI_sA, aI_sM, aL_sI, aL_sL, aL_sA, aL_sM, Bfits_0, Bfits_10, Bfits_12, Bfits_26, Bfits_28, Bfits_38, Bfits_48, Bfits_53, Bfits_58, Bfits_62, Bfits_63, Bfits_68, Bfits_77, Bfits_91, Bfits_95, Bfits_96, oi_0, oi_1, oi_2, oi_3, oi_5, P_holdsValue, P_widens]; try dsimp only
              refine ⟨Or.inl rfl, ?_⟩
              exact ⟨_, rfl, Or.inl rfl, rfl⟩
            · apply hB
              dsimp only [rgo, rfd, Bfits, Nat.beq, rwp, rst, lv_args, rlk, rs1, rs2, rdl, rky, rct, rcs, rcd, rno, rsw, Value.category, List.filter, List.take, List.drop, List.reverse, List.reverseAux, List.cons_append, List.nil_append, Option.toList, Int.toNat, Int.reduceToNat, if_pos, if_neg, reduceIte, ↓reduceIte, Nat.reduceAdd, Nat.reduceEqDiff, Nat.reduceBEq, beq_self_eq_true, Bool.not_true, Bool.not_false, Bool.and_true, Bool.and_false, Bool.true_and, Bool.false_and, gI_sI, gI_sL, gI_sA, gI_sM, gL_sI, gL_sL, gL_sA, gL_sM, aI_sI, aI_sL, aI_sA, aI_sM, aL_sI, aL_sL, aL_sA, aL_sM, Bfits_0, Bfits_10, Bfits_12, Bfits_26, Bfits_28, Bfits_38, Bfits_48, Bfits_53, Bfits_58, Bfits_62, Bfits_63, Bfits_68, Bfits_77, Bfits_91, Bfits_95, Bfits_96, oi_0, oi_1, oi_2, oi_3, oi_5, P_holdsValue, P_widens]; try dsimp only
              refine ⟨fun h8 => ?_, fun h8 => ?_⟩
              · apply hB
                dsimp only [rgo, rfd, Bfits, Nat.beq, rwp, rst, lv_args, rlk, rs1, rs2, rdl, rky, rct, rcs, rcd, rno, rsw, Value.category, List.filter, List.take, List.drop, List.reverse, List.reverseAux, List.cons_append, List.nil_append, Option.toList, Int.toNat, Int.reduceToNat, if_pos, if_neg, reduceIte, ↓reduceIte, Nat.reduceAdd, Nat.reduceEqDiff, Nat.reduceBEq, beq_self_eq_true, Bool.not_true, Bool.not_false, Bool.and_true, Bool.and_false, Bool.true_and, Bool.false_and, gI_sI, gI_sL, gI_sA, gI_sM, gL_sI, gL_sL, gL_sA, gL_sM, aI_sI, aI_sL, aI_sA, aI_sM, aL_sI, aL_sL, aL_sA, aL_sM, Bfits_0, Bfits_10, Bfits_12, Bfits_26, Bfits_28, Bfits_38, Bfits_48, Bfits_53, Bfits_58, Bfits_62, Bfits_63, Bfits_68, Bfits_77, Bfits_91, Bfits_95, Bfits_96, oi_0, oi_1, oi_2, oi_3, oi_5, P_holdsValue, P_widens]; try dsimp only
                apply hB
                dsimp only [rgo, rfd, Bfits, Nat.beq, rwp, rst, lv_args, rlk, rs1, rs2, rdl, rky, rct, rcs, rcd, rno, rsw, Value.category, List.filter, List.take, List.drop, List.reverse, List.reverseAux, List.cons_append, List.nil_append, Option.toList, Int.toNat, Int.reduceToNat, if_pos, if_neg, reduceIte, ↓reduceIte, Nat.reduceAdd, Nat.reduceEqDiff, Nat.reduceBEq, beq_self_eq_true, Bool.not_true, Bool.not_false, Bool.and_true, Bool.and_false, Bool.true_and, Bool.false_and, gI_sI, gI_sL, gI_sA, gI_sM, gL_sI, gL_sL, gL_sA, gL_sM, aI_sI, aI_sL, aI_sA, aI_sM, aL_sI, aL_sL, aL_sA, aL_sM, Bfits_0, Bfits_10, Bfits_12, Bfits_26, Bfits_28, Bfits_38, Bfits_48, Bfits_53, Bfits_58, Bfits_62, Bfits_63, Bfits_68, Bfits_77, Bfits_91, Bfits_95, Bfits_96, oi_0, oi_1, oi_2, oi_3, oi_5, P_holdsValue, P_widens]; try dsimp only
                refine ⟨fun h9 => absurd h9 (by decide), fun h9 => ?_⟩
                clear h9
                apply hB
                dsimp only [rgo, rfd, Bfits, Nat.beq, rwp, rst, lv_args, rlk, rs1, rs2, rdl, rky, rct, rcs, rcd, rno, rsw, Value.category, List.filter, List.take, List.drop, List.reverse, List.reverseAux, List.cons_append, List.nil_append, Option.toList, Int.toNat, Int.reduceToNat, if_pos, if_neg, reduceIte, ↓reduceIte, Nat.reduceAdd, Nat.reduceEqDiff, Nat.reduceBEq, beq_self_eq_true, Bool.not_true, Bool.not_false, Bool.and_true, Bool.and_false, Bool.true_and, Bool.false_and, gI_sI, gI_sL, gI_sA, gI_sM, gL_sI, gL_sL, gL_sA, gL_sM, aI_sI, aI_sL, aI_sA, aI_sM, aL_sI, aL_sL, aL_sA, aL_sM, Bfits_0, Bfits_10, Bfits_12, Bfits_26, Bfits_28, Bfits_38, Bfits_48, Bfits_53, Bfits_58, Bfits_62, Bfits_63, Bfits_68, Bfits_77, Bfits_91, Bfits_95, Bfits_96, oi_0, oi_1, oi_2, oi_3, oi_5, P_holdsValue, P_widens]; try dsimp only
                refine ⟨rfl, rfl, (in_71 (by lia) (by lia)), fun h10 => ?_, fun h10 => ?_⟩
                · apply hB
                  dsimp only [rgo, rfd, Bfits, Nat.beq, rwp, rst, lv_args, rlk, rs1, rs2, rdl, rky, rct, rcs, rcd, rno, rsw, Value.category, List.filter, List.take, List.drop, List.reverse, List.reverseAux, List.cons_append, List.nil_append, Option.toList, Int.toNat, Int.reduceToNat, if_pos, if_neg, reduceIte, ↓reduceIte, Nat.reduceAdd, Nat.reduceEqDiff, Nat.reduceBEq, beq_self_eq_true, Bool.not_true, Bool.not_false, Bool.and_true, Bool.and_false, Bool.true_and, Bool.false_and, gI_sI, gI_sL, gI_sA, gI_sM, gL_sI, gL_sL, gL_sA, gL_sM, aI_sI, aI_sL, aI_sA, aI_sM, aL_sI, aL_sL, aL_sA, aL_sM, Bfits_0, Bfits_10, Bfits_12, Bfits_26, Bfits_28, Bfits_38, Bfits_48, Bfits_53, Bfits_58, Bfits_62, Bfits_63, Bfits_68, Bfits_77, Bfits_91, Bfits_95, Bfits_96, oi_0, oi_1, oi_2, oi_3, oi_5, P_holdsValue, P_widens]; try dsimp only
                  apply hB
                  dsimp only [rgo, rfd, Bfits, Nat.beq, rwp, rst, lv_args, rlk, rs1, rs2, rdl, rky, rct, rcs, rcd, rno, rsw, Value.category, List.filter, List.take, List.drop, List.reverse, List.reverseAux, List.cons_append, List.nil_append, Option.toList, Int.toNat, Int.reduceToNat, if_pos, if_neg, reduceIte, ↓reduceIte, Nat.reduceAdd, Nat.reduceEqDiff, Nat.reduceBEq, beq_self_eq_true, Bool.not_true, Bool.not_false, Bool.and_true, Bool.and_false, Bool.true_and, Bool.false_and, gI_sI, gI_sL, gI_sA, gI_sM, gL_sI, gL_sL, gL_sA, gL_sM, aI_sI, aI_sL, aI_sA, aI_sM, aL_sI, aL_sL, aL_sA, aL_sM, Bfits_0, Bfits_10, Bfits_12, Bfits_26, Bfits_28, Bfits_38, Bfits_48, Bfits_53, Bfits_58, Bfits_62, Bfits_63, Bfits_68, Bfits_77, Bfits_91, Bfits_95, Bfits_96, oi_0, oi_1, oi_2, oi_3, oi_5, P_holdsValue, P_widens]; try dsimp only
                  refine ⟨Or.inl rfl, ?_⟩
                  exact ⟨_, rfl, Or.inl rfl, rfl⟩
                · apply hB
                  dsimp only [rgo, rfd, Bfits, Nat.beq, rwp, rst, lv_args, rlk, rs1, rs2, rdl, rky, rct, rcs, rcd, rno, rsw, Value.category, List.filter, List.take, List.drop, List.reverse, List.reverseAux, List.cons_append, List.nil_append, Option.toList, Int.toNat, Int.reduceToNat, if_pos, if_neg, reduceIte, ↓reduceIte, Nat.reduceAdd, Nat.reduceEqDiff, Nat.reduceBEq, beq_self_eq_true, Bool.not_true, Bool.not_false, Bool.and_true, Bool.and_false, Bool.true_and, Bool.false_and, gI_sI, gI_sL, gI_sA, gI_sM, gL_sI, gL_sL, gL_sA, gL_sM, aI_sI, aI_sL, aI_sA, aI_sM, aL_sI, aL_sL, aL_sA, aL_sM, Bfits_0, Bfits_10, Bfits_12, Bfits_26, Bfits_28, Bfits_38, Bfits_48, Bfits_53, Bfits_58, Bfits_62, Bfits_63, Bfits_68, Bfits_77, Bfits_91, Bfits_95, Bfits_96, oi_0, oi_1, oi_2, oi_3, oi_5, P_holdsValue, P_widens]; try dsimp only
                  refine ⟨rfl, rfl, (in_72 (by lia) (by lia)), rfl, (by decide), (trivial), fun w11 τ11 hq11 => ?_⟩
                  obtain ⟨r11, rfl, hr11, e11⟩ := hq11
                  obtain rfl := e11.symm
                  rcases hr11 with rfl | rfl
                  · dsimp only [Option.toList, List.cons_append, List.nil_append, Nat.beq, gI_sI, gI_sL, gI_sA, gI_sM, gL_sI, gL_sL, gL_sA, gL_sM, aI_sI, aI_sL, aI_sA, aI_sM, aL_sI, aL_sL, aL_sA, aL_sM]
                    refine ⟨fun h12 => ?_, fun h12 => absurd h12 (by decide)⟩
                    clear h12
                    apply hB
                    dsimp only [rgo, rfd, Bfits, Nat.beq, rwp, rst, lv_args, rlk, rs1, rs2, rdl, rky, rct, rcs, rcd, rno, rsw, Value.category, List.filter, List.take, List.drop, List.reverse, List.reverseAux, List.cons_append, List.nil_append, Option.toList, Int.toNat, Int.reduceToNat, if_pos, if_neg, reduceIte, ↓reduceIte, Nat.reduceAdd, Nat.reduceEqDiff, Nat.reduceBEq, beq_self_eq_true, Bool.not_true, Bool.not_false, Bool.and_true, Bool.and_false, Bool.true_and, Bool.false_and, gI_sI, gI_sL, gI_sA, gI_sM, gL_sI, gL_sL, gL_sA, gL_sM, aI_sI, aI_sL, aI_sA, aI_sM, aL_sI, aL_sL, aL_sA, aL_sM, Bfits_0, Bfits_10, Bfits_12, Bfits_26, Bfits_28, Bfits_38, Bfits_48, Bfits_53, Bfits_58, Bfits_62, Bfits_63, Bfits_68, Bfits_77, Bfits_91, Bfits_95, Bfits_96, oi_0, oi_1, oi_2, oi_3, oi_5, P_holdsValue, P_widens]; try dsimp only
                    apply hB
                    dsimp only [rgo, rfd, Bfits, Nat.beq, rwp, rst, lv_args, rlk, rs1, rs2, rdl, rky, rct, rcs, rcd, rno, rsw, Value.category, List.filter, List.take, List.drop, List.reverse, List.reverseAux, List.cons_append, List.nil_append, Option.toList, Int.toNat, Int.reduceToNat, if_pos, if_neg, reduceIte, ↓reduceIte, Nat.reduceAdd, Nat.reduceEqDiff, Nat.reduceBEq, beq_self_eq_true, Bool.not_true, Bool.not_false, Bool.and_true, Bool.and_false, Bool.true_and, Bool.false_and, gI_sI, gI_sL, gI_sA, gI_sM, gL_sI, gL_sL, gL_sA, gL_sM, aI_sI, aI_sL, aI_sA, aI_sM, aL_sI, aL_sL, aL_sA, aL_sM, Bfits_0, Bfits_10, Bfits_12, Bfits_26, Bfits_28, Bfits_38, Bfits_48, Bfits_53, Bfits_58, Bfits_62, Bfits_63, Bfits_68, Bfits_77, Bfits_91, Bfits_95, Bfits_96, oi_0, oi_1, oi_2, oi_3, oi_5, P_holdsValue, P_widens]; try dsimp only
                    refine ⟨Or.inl rfl, ?_⟩
                    exact ⟨_, rfl, Or.inl rfl, rfl⟩
                  · dsimp only [Option.toList, List.cons_append, List.nil_append, Nat.beq, gI_sI, gI_sL, gI_sA, gI_sM, gL_sI, gL_sL, gL_sA, gL_sM, aI_sI, aI_sL, aI_sA, aI_sM, aL_sI, aL_sL, aL_sA, aL_sM]
                    refine ⟨fun h13 => absurd h13 (by decide), fun h13 => ?_⟩
                    clear h13
                    apply hB
                    dsimp only [rgo, rfd, Bfits, Nat.beq, rwp, rst, lv_args, rlk, rs1, rs2, rdl, rky, rct, rcs, rcd, rno, rsw, Value.category, List.filter, List.take, List.drop, List.reverse, List.reverseAux, List.cons_append, List.nil_append, Option.toList, Int.toNat, Int.reduceToNat, if_pos, if_neg, reduceIte, ↓reduceIte, Nat.reduceAdd, Nat.reduceEqDiff, Nat.reduceBEq, beq_self_eq_true, Bool.not_true, Bool.not_false, Bool.and_true, Bool.and_false, Bool.true_and, Bool.false_and, gI_sI, gI_sL, gI_sA, gI_sM, gL_sI, gL_sL, gL_sA, gL_sM, aI_sI, aI_sL, aI_sA, aI_sM, aL_sI, aL_sL, aL_sA, aL_sM, Bfits_0, Bfits_10, Bfits_12, Bfits_26, Bfits_28, Bfits_38, Bfits_48, Bfits_53, Bfits_58, Bfits_62, Bfits_63, Bfits_68, Bfits_77, Bfits_91, Bfits_95, Bfits_96, oi_0, oi_1, oi_2, oi_3, oi_5, P_holdsValue, P_widens]; try dsimp only
                    apply hB
                    dsimp only [rgo, rfd, Bfits, Nat.beq, rwp, rst, lv_args, rlk, rs1, rs2, rdl, rky, rct, rcs, rcd, rno, rsw, Value.category, List.filter, List.take, List.drop, List.reverse, List.reverseAux, List.cons_append, List.nil_append, Option.toList, Int.toNat, Int.reduceToNat, if_pos, if_neg, reduceIte, ↓reduceIte, Nat.reduceAdd, Nat.reduceEqDiff, Nat.reduceBEq, beq_self_eq_true, Bool.not_true, Bool.not_false, Bool.and_true, Bool.and_false, Bool.true_and, Bool.false_and, gI_sI, gI_sL, gI_sA, gI_sM, gL_sI, gL_sL, gL_sA, gL_sM, aI_sI, aI_sL, aI_sA, aI_sM, aL_sI, aL_sL, aL_sA, aL_sM, Bfits_0, Bfits_10, Bfits_12, Bfits_26, Bfits_28, Bfits_38, Bfits_48, Bfits_53, Bfits_58, Bfits_62, Bfits_63, Bfits_68, Bfits_77, Bfits_91, Bfits_95, Bfits_96, oi_0, oi_1, oi_2, oi_3, oi_5, P_holdsValue, P_widens]; try dsimp only
                    refine ⟨Or.inr rfl, ?_⟩
                    exact ⟨_, rfl, Or.inr ⟨rfl, by lia⟩, rfl⟩
              · apply hB
                dsimp only [rgo, rfd, Bfits, Nat.beq, rwp, rst, lv_args, rlk, rs1, rs2, rdl, rky, rct, rcs, rcd, rno, rsw, Value.category, List.filter, List.take, List.drop, List.reverse, List.reverseAux, List.cons_append, List.nil_append, Option.toList, Int.toNat, Int.reduceToNat, if_pos, if_neg, reduceIte, ↓reduceIte, Nat.reduceAdd, Nat.reduceEqDiff, Nat.reduceBEq, beq_self_eq_true, Bool.not_true, Bool.not_false, Bool.and_true, Bool.and_false, Bool.true_and, Bool.false_and, gI_sI, gI_sL, gI_sA, gI_sM, gL_sI, gL_sL, gL_sA, gL_sM, aI_sI, aI_sL, aI_sA, aI_sM, aL_sI, aL_sL, aL_sA, aL_sM, Bfits_0, Bfits_10, Bfits_12, Bfits_26, Bfits_28, Bfits_38, Bfits_48, Bfits_53, Bfits_58, Bfits_62, Bfits_63, Bfits_68, Bfits_77, Bfits_91, Bfits_95, Bfits_96, oi_0, oi_1, oi_2, oi_3, oi_5, P_holdsValue, P_widens]; try dsimp only
                refine ⟨fun h14 => ?_, fun h14 => ?_⟩
                · apply hB
                  dsimp only [rgo, rfd, Bfits, Nat.beq, rwp, rst, lv_args, rlk, rs1, rs2, rdl, rky, rct, rcs, rcd, rno, rsw, Value.category, List.filter, List.take, List.drop, List.reverse, List.reverseAux, List.cons_append, List.nil_append, Option.toList, Int.toNat, Int.reduceToNat, if_pos, if_neg, reduceIte, ↓reduceIte, Nat.reduceAdd, Nat.reduceEqDiff, Nat.reduceBEq, beq_self_eq_true, Bool.not_true, Bool.not_false, Bool.and_true, Bool.and_false, Bool.true_and, Bool.false_and, gI_sI, gI_sL, gI_sA, gI_sM, gL_sI, gL_sL, gL_sA, gL_sM, aI_sI, aI_sL, aI_sA, aI_sM, aL_sI, aL_sL, aL_sA, aL_sM, Bfits_0, Bfits_10, Bfits_12, Bfits_26, Bfits_28, Bfits_38, Bfits_48, Bfits_53, Bfits_58, Bfits_62, Bfits_63, Bfits_68, Bfits_77, Bfits_91, Bfits_95, Bfits_96, oi_0, oi_1, oi_2, oi_3, oi_5, P_holdsValue, P_widens]; try dsimp only
                  apply hB
                  dsimp only [rgo, rfd, Bfits, Nat.beq, rwp, rst, lv_args, rlk, rs1, rs2, rdl, rky, rct, rcs, rcd, rno, rsw, Value.category, List.filter, List.take, List.drop, List.reverse, List.reverseAux, List.cons_append, List.nil_append, Option.toList, Int.toNat, Int.reduceToNat, if_pos, if_neg, reduceIte, ↓reduceIte, Nat.reduceAdd, Nat.reduceEqDiff, Nat.reduceBEq, beq_self_eq_true, Bool.not_true, Bool.not_false, Bool.and_true, Bool.and_false, Bool.true_and, Bool.false_and, gI_sI, gI_sL, gI_sA, gI_sM, gL_sI, gL_sL, gL_sA, gL_sM, aI_sI, aI_sL, aI_sA, aI_sM, aL_sI, aL_sL, aL_sA, aL_sM, Bfits_0, Bfits_10, Bfits_12, Bfits_26, Bfits_28, Bfits_38, Bfits_48, Bfits_53, Bfits_58, Bfits_62, Bfits_63, Bfits_68, Bfits_77, Bfits_91, Bfits_95, Bfits_96, oi_0, oi_1, oi_2, oi_3, oi_5, P_holdsValue, P_widens]; try dsimp only
                  refine ⟨fun h15 => ?_, fun h15 => absurd h15 (by decide)⟩
                  clear h15
                  apply hB
                  dsimp only [rgo, rfd, Bfits, Nat.beq, rwp, rst, lv_args, rlk, rs1, rs2, rdl, rky, rct, rcs, rcd, rno, rsw, Value.category, List.filter, List.take, List.drop, List.reverse, List.reverseAux, List.cons_append, List.nil_append, Option.toList, Int.toNat, Int.reduceToNat, if_pos, if_neg, reduceIte, ↓reduceIte, Nat.reduceAdd, Nat.reduceEqDiff, Nat.reduceBEq, beq_self_eq_true, Bool.not_true, Bool.not_false, Bool.and_true, Bool.and_false, Bool.true_and, Bool.false_and, gI_sI, gI_sL, gI_sA, gI_sM, gL_sI, gL_sL, gL_sA, gL_sM, aI_sI, aI_sL, aI_sA, aI_sM, aL_sI, aL_sL, aL_sA, aL_sM, Bfits_0, Bfits_10, Bfits_12, Bfits_26, Bfits_28, Bfits_38, Bfits_48, Bfits_53, Bfits_58, Bfits_62, Bfits_63, Bfits_68, Bfits_77, Bfits_91, Bfits_95, Bfits_96, oi_0, oi_1, oi_2, oi_3, oi_5, P_holdsValue, P_widens]; try dsimp only
                  apply hB
                  dsimp only [rgo, rfd, Bfits, Nat.beq, rwp, rst, lv_args, rlk, rs1, rs2, rdl, rky, rct, rcs, rcd, rno, rsw, Value.category, List.filter, List.take, List.drop, List.reverse, List.reverseAux, List.cons_append, List.nil_append, Option.toList, Int.toNat, Int.reduceToNat, if_pos, if_neg, reduceIte, ↓reduceIte, Nat.reduceAdd, Nat.reduceEqDiff, Nat.reduceBEq, beq_self_eq_true, Bool.not_true, Bool.not_false, Bool.and_true, Bool.and_false, Bool.true_and, Bool.false_and, gI_sI, gI_sL, gI_sA, gI_sM, gL_sI, gL_sL, gL_sA, gL_sM, aI_sI, aI_sL, aI_sA, aI_sM, aL_sI, aL_sL, aL_sA, aL_sM, Bfits_0, Bfits_10, Bfits_12, Bfits_26, Bfits_28, Bfits_38, Bfits_48, Bfits_53, Bfits_58, Bfits_62, Bfits_63, Bfits_68, Bfits_77, Bfits_91, Bfits_95, Bfits_96, oi_0, oi_1, oi_2, oi_3, oi_5, P_holdsValue, P_widens]; try dsimp only
                  refine ⟨Or.inl rfl, ?_⟩
                  exact ⟨_, rfl, Or.inl rfl, rfl⟩
                · apply hB
                  dsimp only [rgo, rfd, Bfits, Nat.beq, rwp, rst, lv_args, rlk, rs1, rs2, rdl, rky, rct, rcs, rcd, rno, rsw, Value.category, List.filter, List.take, List.drop, List.reverse, List.reverseAux, List.cons_append, List.nil_append, Option.toList, Int.toNat, Int.reduceToNat, if_pos, if_neg, reduceIte, ↓reduceIte, Nat.reduceAdd, Nat.reduceEqDiff, Nat.reduceBEq, beq_self_eq_true, Bool.not_true, Bool.not_false, Bool.and_true, Bool.and_false, Bool.true_and, Bool.false_and, gI_sI, gI_sL, gI_sA, gI_sM, gL_sI, gL_sL, gL_sA, gL_sM, aI_sI, aI_sL, aI_sA, aI_sM, aL_sI, aL_sL, aL_sA, aL_sM, Bfits_0, Bfits_10, Bfits_12, Bfits_26, Bfits_28, Bfits_38, Bfits_48, Bfits_53, Bfits_58, Bfits_62, Bfits_63, Bfits_68, Bfits_77, Bfits_91, Bfits_95, Bfits_96, oi_0, oi_1, oi_2, oi_3, oi_5, P_holdsValue, P_widens]; try dsimp only
                  apply hB
                  dsimp only [rgo, rfd, Bfits, Nat.beq, rwp, rst, lv_args, rlk, rs1, rs2, rdl, rky, rct, rcs, rcd, rno, rsw, Value.category, List.filter, List.take, List.drop, List.reverse, List.reverseAux, List.cons_append, List.nil_append, Option.toList, Int.toNat, Int.reduceToNat, if_pos, if_neg, reduceIte, ↓reduceIte, Nat.reduceAdd, Nat.reduceEqDiff, Nat.reduceBEq, beq_self_eq_true, Bool.not_true, Bool.not_false, Bool.and_true, Bool.and_false, Bool.true_and, Bool.false_and, gI_sI, gI_sL, gI_sA, gI_sM, gL_sI, gL_sL, gL_sA, gL_sM, aI_sI, aI_sL, aI_sA, aI_sM, aL_sI, aL_sL, aL_sA, aL_sM, Bfits_0, Bfits_10, Bfits_12, Bfits_26, Bfits_28, Bfits_38, Bfits_48, Bfits_53, Bfits_58, Bfits_62, Bfits_63, Bfits_68, Bfits_77, Bfits_91, Bfits_95, Bfits_96, oi_0, oi_1, oi_2, oi_3, oi_5, P_holdsValue, P_widens]; try dsimp only
                  refine ⟨fun h16 => absurd h16 (by decide), fun h16 => ?_⟩
                  clear h16
                  apply hB
                  dsimp only [rgo, rfd, Bfits, Nat.beq, rwp, rst, lv_args, rlk, rs1, rs2, rdl, rky, rct, rcs, rcd, rno, rsw, Value.category, List.filter, List.take, List.drop, List.reverse, List.reverseAux, List.cons_append, List.nil_append, Option.toList, Int.toNat, Int.reduceToNat, if_pos, if_neg, reduceIte, ↓reduceIte, Nat.reduceAdd, Nat.reduceEqDiff, Nat.reduceBEq, beq_self_eq_true, Bool.not_true, Bool.not_false, Bool.and_true, Bool.and_false, Bool.true_and, Bool.false_and, gI_sI, gI_sL, gI_sA, gI_sM, gL_sI, gL_sL, gL_sA, gL_sM, aI_sI, aI_sL, aI_sA, aI_sM, aL_sI, aL_sL, aL_sA, aL_sM, Bfits_0, Bfits_10, Bfits_12, Bfits_26, Bfits_28, Bfits_38, Bfits_48, Bfits_53, Bfits_58, Bfits_62, Bfits_63, Bfits_68, Bfits_77, Bfits_91, Bfits_95, Bfits_96, oi_0, oi_1, oi_2, oi_3, oi_5, P_holdsValue, P_widens]; try dsimp only
                  refine ⟨rfl, rfl, (in_71 (by lia) (by lia)), fun h17 => ?_, fun h17 => ?_⟩
                  · apply hB
                    dsimp only [rgo, rfd, Bfits, Nat.beq, rwp, rst, lv_args, rlk, rs1, rs2, rdl, rky, rct, rcs, rcd, rno, rsw, Value.category, List.filter, List.take, List.drop, List.reverse, List.reverseAux, List.cons_append, List.nil_append, Option.toList, Int.toNat, Int.reduceToNat, if_pos, if_neg, reduceIte, ↓reduceIte, Nat.reduceAdd, Nat.reduceEqDiff, Nat.reduceBEq, beq_self_eq_true, Bool.not_true, Bool.not_false, Bool.and_true, Bool.and_false, Bool.true_and, Bool.false_and, gI_sI, gI_sL, gI_sA, gI_sM, gL_sI, gL_sL, gL_sA, gL_sM, aI_sI, aI_sL, aI_sA, aI_sM, aL_sI, aL_sL, aL_sA, aL_sM, Bfits_0, Bfits_10, Bfits_12, Bfits_26, Bfits_28, Bfits_38, Bfits_48, Bfits_53, Bfits_58, Bfits_62, Bfits_63, Bfits_68, Bfits_77, Bfits_91, Bfits_95, Bfits_96, oi_0, oi_1, oi_2, oi_3, oi_5, P_holdsValue, P_widens]; try dsimp only
                    apply hB
                    dsimp only [rgo, rfd, Bfits, Nat.beq, rwp, rst, lv_args, rlk, rs1, rs2, rdl, rky, rct, rcs, rcd, rno, rsw, Value.category, List.filter, List.take, List.drop, List.reverse, List.reverseAux, List.cons_append, List.nil_append, Option.toList, Int.toNat, Int.reduceToNat, if_pos, if_neg, reduceIte, ↓reduceIte, Nat.reduceAdd, Nat.reduceEqDiff, Nat.reduceBEq, beq_self_eq_true, Bool.not_true, Bool.not_false, Bool.and_true, Bool.and_false, Bool.true_and, Bool.false_and, gI_sI, gI_sL, gI_sA, gI_sM, gL_sI, gL_sL, gL_sA, gL_sM, aI_sI, aI_sL, aI_sA, aI_sM, aL_sI, aL_sL, aL_sA, aL_sM, Bfits_0, Bfits_10, Bfits_12, Bfits_26, Bfits_28, Bfits_38, Bfits_48, Bfits_53, Bfits_58, Bfits_62, Bfits_63, Bfits_68, Bfits_77, Bfits_91, Bfits_95, Bfits_96, oi_0, oi_1, oi_2, oi_3, oi_5, P_holdsValue, P_widens]; try dsimp only
                    refine ⟨Or.inl rfl, ?_⟩
                    exact ⟨_, rfl, Or.inl rfl, rfl⟩
                  · apply hB
                    dsimp only [rgo, rfd, Bfits, Nat.beq, rwp, rst, lv_args, rlk, rs1, rs2, rdl, rky, rct, rcs, rcd, rno, rsw, Value.category, List.filter, List.take, List.drop, List.reverse, List.reverseAux, List.cons_append, List.nil_append, Option.toList, Int.toNat, Int.reduceToNat, if_pos, if_neg, reduceIte, ↓reduceIte, Nat.reduceAdd, Nat.reduceEqDiff, Nat.reduceBEq, beq_self_eq_true, Bool.not_true, Bool.not_false, Bool.and_true, Bool.and_false, Bool.true_and, Bool.false_and, gI_sI, gI_sL, gI_sA, gI_sM, gL_sI, gL_sL, gL_sA, gL_sM, aI_sI, aI_sL, aI_sA, aI_sM, aL_sI, aL_sL, aL_sA, aL_sM, Bfits_0, Bfits_10, Bfits_12, Bfits_26, Bfits_28, Bfits_38, Bfits_48, Bfits_53, Bfits_58, Bfits_62, Bfits_63, Bfits_68, Bfits_77, Bfits_91, Bfits_95, Bfits_96, oi_0, oi_1, oi_2, oi_3, oi_5, P_holdsValue, P_widens]; try dsimp only
                    refine ⟨rfl, rfl, (in_72 (by lia) (by lia)), rfl, (by decide), (trivial), fun w18 τ18 hq18 => ?_⟩
                    obtain ⟨r18, rfl, hr18, e18⟩ := hq18
                    obtain rfl := e18.symm
                    rcases hr18 with rfl | rfl
                    · dsimp only [Option.toList, List.cons_append, List.nil_append, Nat.beq, gI_sI, gI_sL, gI_sA, gI_sM, gL_sI, gL_sL, gL_sA, gL_sM, aI_sI, aI_sL, aI_sA, aI_sM, aL_sI, aL_sL, aL_sA, aL_sM]
                      refine ⟨fun h19 => ?_, fun h19 => absurd h19 (by decide)⟩
                      clear h19
                      apply hB
                      dsimp only [rgo, rfd, Bfits, Nat.beq, rwp, rst, lv_args, rlk, rs1, rs2, rdl, rky, rct, rcs, rcd, rno, rsw, Value.category, List.filter, List.take, List.drop, List.reverse, List.reverseAux, List.cons_append, List.nil_append, Option.toList, Int.toNat, Int.reduceToNat, if_pos, if_neg, reduceIte, ↓reduceIte, Nat.reduceAdd, Nat.reduceEqDiff, Nat.reduceBEq, beq_self_eq_true, Bool.not_true, Bool.not_false, Bool.and_true, Bool.and_false, Bool.true_and, Bool.false_and, gI_sI, gI_sL, gI_sA, gI_sM, gL_sI, gL_sL, gL_sA, gL_sM, aI_sI, aI_sL, aI_sA, aI_sM, aL_sI, aL_sL, aL_sA, aL_sM, Bfits_0, Bfits_10, Bfits_12, Bfits_26, Bfits_28, Bfits_38, Bfits_48, Bfits_53, Bfits_58, Bfits_62, Bfits_63, Bfits_68, Bfits_77, Bfits_91, Bfits_95, Bfits_96, oi_0, oi_1, oi_2, oi_3, oi_5, P_holdsValue, P_widens]; try dsimp only
                      apply hB
                      dsimp only [rgo, rfd, Bfits, Nat.beq, rwp, rst, lv_args, rlk, rs1, rs2, rdl, rky, rct, rcs, rcd, rno, rsw, Value.category, List.filter, List.take, List.drop, List.reverse, List.reverseAux, List.cons_append, List.nil_append, Option.toList, Int.toNat, Int.reduceToNat, if_pos, if_neg, reduceIte, ↓reduceIte, Nat.reduceAdd, Nat.reduceEqDiff, Nat.reduceBEq, beq_self_eq_true, Bool.not_true, Bool.not_false, Bool.and_true, Bool.and_false, Bool.true_and, Bool.false_and, gI_sI, gI_sL, gI_sA, gI_sM, gL_sI, gL_sL, gL_sA, gL_sM, aI_sI, aI_sL, aI_sA, aI_sM, aL_sI, aL_sL, aL_sA, aL_sM, Bfits_0, Bfits_10, Bfits_12, Bfits_26, Bfits_28, Bfits_38, Bfits_48, Bfits_53, Bfits_58, Bfits_62, Bfits_63, Bfits_68, Bfits_77, Bfits_91, Bfits_95, Bfits_96, oi_0, oi_1, oi_2, oi_3, oi_5, P_holdsValue, P_widens]; try dsimp only
                      refine ⟨Or.inl rfl, ?_⟩
                      exact ⟨_, rfl, Or.inl rfl, rfl⟩
                    · dsimp only [Option.toList, List.cons_append, List.nil_append, Nat.beq, gI_sI, gI_sL, gI_sA, gI_sM, gL_sI, gL_sL, gL_sA, gL_sM, aI_sI, aI_sL, aI_sA, aI_sM, aL_sI, aL_sL, aL_sA, aL_sM]
                      refine ⟨fun h20 => absurd h20 (by decide), fun h20 => ?_⟩
                      clear h20
                      apply hB
                      dsimp only [rgo, rfd, Bfits, Nat.beq, rwp, rst, lv_args, rlk, rs1, rs2, rdl, rky, rct, rcs, rcd, rno, rsw, Value.category, List.filter, List.take, List.drop, List.reverse, List.reverseAux, List.cons_append, List.nil_append, Option.toList, Int.toNat, Int.reduceToNat, if_pos, if_neg, reduceIte, ↓reduceIte, Nat.reduceAdd, Nat.reduceEqDiff, Nat.reduceBEq, beq_self_eq_true, Bool.not_true, Bool.not_false, Bool.and_true, Bool.and_false, Bool.true_and, Bool.false_and, gI_sI, gI_sL, gI_sA, gI_sM, gL_sI, gL_sL, gL_sA, gL_sM, aI_sI, aI_sL, aI_sA, aI_sM, aL_sI, aL_sL, aL_sA, aL_sM, Bfits_0, Bfits_10, Bfits_12, Bfits_26, Bfits_28, Bfits_38, Bfits_48, Bfits_53, Bfits_58, Bfits_62, Bfits_63, Bfits_68, Bfits_77, Bfits_91, Bfits_95, Bfits_96, oi_0, oi_1, oi_2, oi_3, oi_5, P_holdsValue, P_widens]; try dsimp only
                      apply hB
                      dsimp only [rgo, rfd, Bfits, Nat.beq, rwp, rst, lv_args, rlk, rs1, rs2, rdl, rky, rct, rcs, rcd, rno, rsw, Value.category, List.filter, List.take, List.drop, List.reverse, List.reverseAux, List.cons_append, List.nil_append, Option.toList, Int.toNat, Int.reduceToNat, if_pos, if_neg, reduceIte, ↓reduceIte, Nat.reduceAdd, Nat.reduceEqDiff, Nat.reduceBEq, beq_self_eq_true, Bool.not_true, Bool.not_false, Bool.and_true, Bool.and_false, Bool.true_and, Bool.false_and, gI_sI, gI_sL, gI_sA, gI_sM, gL_sI, gL_sL, gL_sA, gL_sM, aI_sI, aI_sL, aI_sA, aI_sM, aL_sI, aL_sL, aL_sA, aL_sM, Bfits_0, Bfits_10, Bfits_12, Bfits_26, Bfits_28, Bfits_38, Bfits_48, Bfits_53, Bfits_58, Bfits_62, Bfits_63, Bfits_68, Bfits_77, Bfits_91, Bfits_95, Bfits_96, oi_0, oi_1, oi_2, oi_3, oi_5, P_holdsValue, P_widens]; try dsimp only
                      refine ⟨Or.inr rfl, ?_⟩
                      exact ⟨_, rfl, Or.inr ⟨rfl, by lia⟩, rfl⟩
        · dsimp only [Option.toList, List.cons_append, List.nil_append, Nat.beq, gI_sI, gI_sL, gI_sA, gI_sM, gL_sI, gL_sL, gL_sA, gL_sM, aI_sI, aI_sL, aI_sA, aI_sM, aL_sI, aL_sL, aL_sA, aL_sM]
          refine ⟨fun h21 => absurd h21 (by decide), fun h21 => ?_⟩
          clear h21
          apply hB
          dsimp only [rgo, rfd, Bfits, Nat.beq, rwp, rst, lv_args, rlk, rs1, rs2, rdl, rky, rct, rcs, rcd, rno, rsw, Value.category, List.filter, List.take, List.drop, List.reverse, List.reverseAux, List.cons_append, List.nil_append, Option.toList, Int.toNat, Int.reduceToNat, if_pos, if_neg, reduceIte, ↓reduceIte, Nat.reduceAdd, Nat.reduceEqDiff, Nat.reduceBEq, beq_self_eq_true, Bool.not_true, Bool.not_false, Bool.and_true, Bool.and_false, Bool.true_and, Bool.false_and, gI_sI, gI_sL, gI_sA, gI_sM, gL_sI, gL_sL, gL_sA, gL_sM, aI_sI, aI_sL, aI_sA, aI_sM, aL_sI, aL_sL, aL_sA, aL_sM, Bfits_0, Bfits_10, Bfits_12, Bfits_26, Bfits_28, Bfits_38, Bfits_48, Bfits_53, Bfits_58, Bfits_62, Bfits_63, Bfits_68, Bfits_77, Bfits_91, Bfits_95, Bfits_96, oi_0, oi_1, oi_2, oi_3, oi_5, P_holdsValue, P_widens]; try dsimp only
          refine ⟨Or.inr rfl, ?_⟩
          exact ⟨_, rfl, Or.inr ⟨rfl, by lia⟩, rfl⟩
      · apply hB
        dsimp only [rgo, rfd, Bfits, Nat.beq, rwp, rst, lv_args, rlk, rs1, rs2, rdl, rky, rct, rcs, rcd, rno, rsw, Value.category, List.filter, List.take, List.drop, List.reverse, List.reverseAux, List.cons_append, List.nil_append, Option.toList, Int.toNat, Int.reduceToNat, if_pos, if_neg, reduceIte, ↓reduceIte, Nat.reduceAdd, Nat.reduceEqDiff, Nat.reduceBEq, beq_self_eq_true, Bool.not_true, Bool.not_false, Bool.and_true, Bool.and_false, Bool.true_and, Bool.false_and, gI_sI, gI_sL, gI_sA, gI_sM, gL_sI, gL_sL, gL_sA, gL_sM, aI_sI, aI_sL, aI_sA, aI_sM, aL_sI, aL_sL, aL_sA, aL_sM, Bfits_0, Bfits_10, Bfits_12, Bfits_26, Bfits_28, Bfits_38, Bfits_48, Bfits_53, Bfits_58, Bfits_62, Bfits_63, Bfits_68, Bfits_77, Bfits_91, Bfits_95, Bfits_96, oi_0, oi_1, oi_2, oi_3, oi_5, P_holdsValue, P_widens]; try dsimp only
        refine ⟨Or.inl rfl, ?_⟩
        exact ⟨_, rfl, Or.inl rfl, rfl⟩
    next => exact hP.elim
theorem m_fits (l : Launch) : RMet l 2 75 P_fits Q_fits := by
  refine RMet.by Bfits [(74, P_holdsValue, Q_holdsValue), (73, P_widens, Q_widens)] rofits okBfits (ctc (m_holdsValue l) (by decide) (ctc (m_widens l) (by decide) ct0)) ?_ b_fits
  · intro As σ hP
    unfold P_fits at hP
    split at hP
    next => exact Nat.le_of_ble_eq_true rfl
    next => exact hP.elim
set_option maxRecDepth 100000 in
theorem e_fits (l : Launch) : RMetE l 2 75 P_fits Q_fits := by
  refine RMetE.by Bfits [(74, P_holdsValue, Q_holdsValue), (73, P_widens, Q_widens)] rfl rfl rofits okBfits (ctEc (e_holdsValue l) (by decide) (ctEc (e_widens l) (by decide) ctE0)) ?_ b_fits
  · intro As σ hP
    unfold P_fits at hP
    split at hP
    next => exact Nat.le_of_ble_eq_true rfl
    next => exact hP.elim
def P_isHeld : RP := fun As σ => match As with
  | [.int s, .int ty] => 0 ≤ s ∧ s < 700
  | _ => False
def Q_isHeld : RQ := fun As σ w τ => match As with
  | [.int s, .int ty] => ∃ r : Int32, w = some (.int r) ∧ (r = 0 ∨ r = 1) ∧ τ = σ
  | _ => False
set_option maxRecDepth 100000 in
set_option maxHeartbeats 4000000 in
theorem b_isHeld : Bod BisHeld [(74, P_holdsValue, Q_holdsValue)] P_isHeld Q_isHeld := by
  · intro As σ hP G hB hW
    unfold P_isHeld at hP
    split at hP
    next s ty => 
      unfold Q_isHeld at hB
      dsimp only at hB
      apply hB
      dsimp only [rgo, rfd, BisHeld, Nat.beq, rwp, rst, lv_args, rlk, rs1, rs2, rdl, rky, rct, rcs, rcd, rno, rsw, Value.category, List.filter, List.take, List.drop, List.reverse, List.reverseAux, List.cons_append, List.nil_append, Option.toList, Int.toNat, Int.reduceToNat, if_pos, if_neg, reduceIte, ↓reduceIte, Nat.reduceAdd, Nat.reduceEqDiff, Nat.reduceBEq, beq_self_eq_true, Bool.not_true, Bool.not_false, Bool.and_true, Bool.and_false, Bool.true_and, Bool.false_and, gI_sI, gI_sL, gI_sA, gI_sM, gL_sI, gL_sL, gL_sA, gL_sM, aI_sI, aI_sL, aI_sA, aI_sM, aL_sI, aL_sL, aL_sA, aL_sM, BisHeld_0, BisHeld_5, BisHeld_10, BisHeld_20, BisHeld_29, BisHeld_43, BisHeld_47, BisHeld_48, oi_0, oi_1, oi_2, oi_3, P_holdsValue]; try dsimp only
      refine ⟨fun h1 => ?_, fun h1 => ?_⟩
      · apply hB
        dsimp only [rgo, rfd, BisHeld, Nat.beq, rwp, rst, lv_args, rlk, rs1, rs2, rdl, rky, rct, rcs, rcd, rno, rsw, Value.category, List.filter, List.take, List.drop, List.reverse, List.reverseAux, List.cons_append, List.nil_append, Option.toList, Int.toNat, Int.reduceToNat, if_pos, if_neg, reduceIte, ↓reduceIte, Nat.reduceAdd, Nat.reduceEqDiff, Nat.reduceBEq, beq_self_eq_true, Bool.not_true, Bool.not_false, Bool.and_true, Bool.and_false, Bool.true_and, Bool.false_and, gI_sI, gI_sL, gI_sA, gI_sM, gL_sI, gL_sL, gL_sA, gL_sM, aI_sI, aI_sL, aI_sA, aI_sM, aL_sI, aL_sL, aL_sA, aL_sM, BisHeld_0, BisHeld_5, BisHeld_10, BisHeld_20, BisHeld_29, BisHeld_43, BisHeld_47, BisHeld_48, oi_0, oi_1, oi_2, oi_3, P_holdsValue]; try dsimp only
        refine ⟨rfl, rfl, (in_70 (by lia) (by lia)), fun h2 => ?_, fun h2 => ?_⟩
        · apply hB
          dsimp only [rgo, rfd, BisHeld, Nat.beq, rwp, rst, lv_args, rlk, rs1, rs2, rdl, rky, rct, rcs, rcd, rno, rsw, Value.category, List.filter, List.take, List.drop, List.reverse, List.reverseAux, List.cons_append, List.nil_append, Option.toList, Int.toNat, Int.reduceToNat, if_pos, if_neg, reduceIte, ↓reduceIte, Nat.reduceAdd, Nat.reduceEqDiff, Nat.reduceBEq, beq_self_eq_true, Bool.not_true, Bool.not_false, Bool.and_true, Bool.and_false, Bool.true_and, Bool.false_and, gI_sI, gI_sL, gI_sA, gI_sM, gL_sI, gL_sL, gL_sA, gL_sM, aI_sI, aI_sL, aI_sA, aI_sM, aL_sI, aL_sL, aL_sA, aL_sM, BisHeld_0, BisHeld_5, BisHeld_10, BisHeld_20, BisHeld_29, BisHeld_43, BisHeld_47, BisHeld_48, oi_0, oi_1, oi_2, oi_3, P_holdsValue]; try dsimp only
          apply hB
          dsimp only [rgo, rfd, BisHeld, Nat.beq, rwp, rst, lv_args, rlk, rs1, rs2, rdl, rky, rct, rcs, rcd, rno, rsw, Value.category, List.filter, List.take, List.drop, List.reverse, List.reverseAux, List.cons_append, List.nil_append, Option.toList, Int.toNat, Int.reduceToNat, if_pos, if_neg, reduceIte, ↓reduceIte, Nat.reduceAdd, Nat.reduceEqDiff, Nat.reduceBEq, beq_self_eq_true, Bool.not_true, Bool.not_false, Bool.and_true, Bool.and_false, Bool.true_and, Bool.false_and, gI_sI, gI_sL, gI_sA, gI_sM, gL_sI, gL_sL, gL_sA, gL_sM, aI_sI, aI_sL, aI_sA, aI_sM, aL_sI, aL_sL, aL_sA, aL_sM, BisHeld_0, BisHeld_5, BisHeld_10, BisHeld_20, BisHeld_29, BisHeld_43, BisHeld_47, BisHeld_48, oi_0, oi_1, oi_2, oi_3, P_holdsValue]; try dsimp only
          refine ⟨Or.inl rfl, ?_⟩
          exact ⟨_, rfl, Or.inl rfl, rfl⟩
        · apply hB
          dsimp only [rgo, rfd, BisHeld, Nat.beq, rwp, rst, lv_args, rlk, rs1, rs2, rdl, rky, rct, rcs, rcd, rno, rsw, Value.category, List.filter, List.take, List.drop, List.reverse, List.reverseAux, List.cons_append, List.nil_append, Option.toList, Int.toNat, Int.reduceToNat, if_pos, if_neg, reduceIte, ↓reduceIte, Nat.reduceAdd, Nat.reduceEqDiff, Nat.reduceBEq, beq_self_eq_true, Bool.not_true, Bool.not_false, Bool.and_true, Bool.and_false, Bool.true_and, Bool.false_and, gI_sI, gI_sL, gI_sA, gI_sM, gL_sI, gL_sL, gL_sA, gL_sM, aI_sI, aI_sL, aI_sA, aI_sM, aL_sI, aL_sL, aL_sA, aL_sM, BisHeld_0, BisHeld_5, BisHeld_10, BisHeld_20, BisHeld_29, BisHeld_43, BisHeld_47, BisHeld_48, oi_0, oi_1, oi_2, oi_3, P_holdsValue]; try dsimp only
          refine ⟨rfl, rfl, (in_71 (by lia) (by lia)), fun h3 => ?_, fun h3 => ?_⟩
          · apply hB
            dsimp only [rgo, rfd, BisHeld, Nat.beq, rwp, rst, lv_args, rlk, rs1, rs2, rdl, rky, rct, rcs, rcd, rno, rsw, Value.category, List.filter, List.take, List.drop, List.reverse, List.reverseAux, List.cons_append, List.nil_append, Option.toList, Int.toNat, Int.reduceToNat, if_pos, if_neg, reduceIte, ↓reduceIte, Nat.reduceAdd, Nat.reduceEqDiff, Nat.reduceBEq, beq_self_eq_true, Bool.not_true, Bool.not_false, Bool.and_true, Bool.and_false, Bool.true_and, Bool.false_and, gI_sI, gI_sL, gI_sA, gI_sM, gL_sI, gL_sL, gL_sA, gL_sM, aI_sI, aI_sL, aI_sA, aI_sM, aL_sI, aL_sL, aL_sA, aL_sM, BisHeld_0, BisHeld_5, BisHeld_10, BisHeld_20, BisHeld_29, BisHeld_43, BisHeld_47, BisHeld_48, oi_0, oi_1, oi_2, oi_3, P_holdsValue]; try dsimp only
            apply hB
            dsimp only [rgo, rfd, BisHeld, Nat.beq, rwp, rst, lv_args, rlk, rs1, rs2, rdl, rky, rct, rcs, rcd, rno, rsw, Value.category, List.filter, List.take, List.drop, List.reverse, List.reverseAux, List.cons_append, List.nil_append, Option.toList, Int.toNat, Int.reduceToNat, if_pos, if_neg, reduceIte, ↓reduceIte, Nat.reduceAdd, Nat.reduceEqDiff, Nat.reduceBEq, beq_self_eq_true, Bool.not_true, Bool.not_false, Bool.and_true, Bool.and_false, Bool.true_and, Bool.false_and, gI_sI, gI_sL, gI_sA, gI_sM, gL_sI, gL_sL, gL_sA, gL_sM, aI_sI, aI_sL, aI_sA, aI_sM, aL_sI, aL_sL, aL_sA, aL_sM, BisHeld_0, BisHeld_5, BisHeld_10, BisHeld_20, BisHeld_29, BisHeld_43, BisHeld_47, BisHeld_48, oi_0, oi_1, oi_2, oi_3, P_holdsValue]; try dsimp only
            refine ⟨Or.inl rfl, ?_⟩
            exact ⟨_, rfl, Or.inl rfl, rfl⟩
          · apply hB
            dsimp only [rgo, rfd, BisHeld, Nat.beq, rwp, rst, lv_args, rlk, rs1, rs2, rdl, rky, rct, rcs, rcd, rno, rsw, Value.category, List.filter, List.take, List.drop, List.reverse, List.reverseAux, List.cons_append, List.nil_append, Option.toList, Int.toNat, Int.reduceToNat, if_pos, if_neg, reduceIte, ↓reduceIte, Nat.reduceAdd, Nat.reduceEqDiff, Nat.reduceBEq, beq_self_eq_true, Bool.not_true, Bool.not_false, Bool.and_true, Bool.and_false, Bool.true_and, Bool.false_and, gI_sI, gI_sL, gI_sA, gI_sM, gL_sI, gL_sL, gL_sA, gL_sM, aI_sI, aI_sL, aI_sA, aI_sM, aL_sI, aL_sL, aL_sA, aL_sM, BisHeld_0, BisHeld_5, BisHeld_10, BisHeld_20, BisHeld_29, BisHeld_43, BisHeld_47, BisHeld_48, oi_0, oi_1, oi_2, oi_3, P_holdsValue]; try dsimp only
            refine ⟨rfl, rfl, (in_72 (by lia) (by lia)), rfl, (by decide), (trivial), fun w4 τ4 hq4 => ?_⟩
            obtain ⟨r4, rfl, hr4, e4⟩ := hq4
            obtain rfl := e4.symm
            rcases hr4 with rfl | rfl
            · dsimp only [Option.toList, List.cons_append, List.nil_append, Nat.beq, gI_sI, gI_sL, gI_sA, gI_sM, gL_sI, gL_sL, gL_sA, gL_sM, aI_sI, aI_sL, aI_sA, aI_sM, aL_sI, aL_sL, aL_sA, aL_sM]
              refine ⟨fun h5 => ?_, fun h5 => absurd h5 (by decide)⟩
              clear h5
              apply hB
              dsimp only [rgo, rfd, BisHeld, Nat.beq, rwp, rst, lv_args, rlk, rs1, rs2, rdl, rky, rct, rcs, rcd, rno, rsw, Value.category, List.filter, List.take, List.drop, List.reverse, List.reverseAux, List.cons_append, List.nil_append, Option.toList, Int.toNat, Int.reduceToNat, if_pos, if_neg, reduceIte, ↓reduceIte, Nat.reduceAdd, Nat.reduceEqDiff, Nat.reduceBEq, beq_self_eq_true, Bool.not_true, Bool.not_false, Bool.and_true, Bool.and_false, Bool.true_and, Bool.false_and, gI_sI, gI_sL, gI_sA, gI_sM, gL_sI, gL_sL, gL_sA, gL_sM, aI_sI, aI_sL, aI_sA, aI_sM, aL_sI, aL_sL, aL_sA, aL_sM, BisHeld_0, BisHeld_5, BisHeld_10, BisHeld_20, BisHeld_29, BisHeld_43, BisHeld_47, BisHeld_48, oi_0, oi_1, oi_2, oi_3, P_holdsValue]; try dsimp only
              apply hB
              dsimp only [rgo, rfd, BisHeld, Nat.beq, rwp, rst, lv_args, rlk, rs1, rs2, rdl, rky, rct, rcs, rcd, rno, rsw, Value.category, List.filter, List.take, List.drop, List.reverse, List.reverseAux, List.cons_append, List.nil_append, Option.toList, Int.toNat, Int.reduceToNat, if_pos, if_neg, reduceIte, ↓reduceIte, Nat.reduceAdd, Nat.reduceEqDiff, Nat.reduceBEq, beq_self_eq_true, Bool.not_true, Bool.not_false, Bool.and_true, Bool.and_false, Bool.true_and, Bool.false_and, gI_sI, gI_sL, gI_sA, gI_sM, gL_sI, gL_sL, gL_sA, gL_sM, aI_sI, aI_sL, aI_sA, aI_sM, aL_sI, aL_sL, aL_sA, aL_sM, BisHeld_0, BisHeld_5, BisHeld_10, BisHeld_20, BisHeld_29, BisHeld_43, BisHeld_47, BisHeld_48, oi_0, oi_1, oi_2, oi_3, P_holdsValue]; try dsimp only
              refine ⟨Or.inl rfl, ?_⟩
              exact ⟨_, rfl, Or.inl rfl, rfl⟩
            · dsimp only [Option.toList, List.cons_append, List.nil_append, Nat.beq, gI_sI, gI_sL, gI_sA, gI_sM, gL_sI, gL_sL, gL_sA, gL_sM, aI_sI, aI_sL, aI_sA, aI_sM, aL_sI, aL_sL, aL_sA, aL_sM]
              refine ⟨fun h6 => absurd h6 (by decide), fun h6 => ?_⟩
              clear h6
              apply hB
              dsimp only [rgo, rfd, BisHeld, Nat.beq, rwp, rst, lv_args, rlk, rs1, rs2, rdl, rky, rct, rcs, rcd, rno, rsw, Value.category, List.filter, List.take, List.drop, List.reverse, List.reverseAux, List.cons_append, List.nil_append, Option.toList, Int.toNat, Int.reduceToNat, if_pos, if_neg, reduceIte, ↓reduceIte, Nat.reduceAdd, Nat.reduceEqDiff, Nat.reduceBEq, beq_self_eq_true, Bool.not_true, Bool.not_false, Bool.and_true, Bool.and_false, Bool.true_and, Bool.false_and, gI_sI, gI_sL, gI_sA, gI_sM, gL_sI, gL_sL, gL_sA, gL_sM, aI_sI, aI_sL, aI_sA, aI_sM, aL_sI, aL_sL, aL_sA, aL_sM, BisHeld_0, BisHeld_5, BisHeld_10, BisHeld_20, BisHeld_29, BisHeld_43, BisHeld_47, BisHeld_48, oi_0, oi_1, oi_2, oi_3, P_holdsValue]; try dsimp only
              apply hB
              dsimp only [rgo, rfd, BisHeld, Nat.beq, rwp, rst, lv_args, rlk, rs1, rs2, rdl, rky, rct, rcs, rcd, rno, rsw, Value.category, List.filter, List.take, List.drop, List.reverse, List.reverseAux, List.cons_append, List.nil_append, Option.toList, Int.toNat, Int.reduceToNat, if_pos, if_neg, reduceIte, ↓reduceIte, Nat.reduceAdd, Nat.reduceEqDiff, Nat.reduceBEq, beq_self_eq_true, Bool.not_true, Bool.not_false, Bool.and_true, Bool.and_false, Bool.true_and, Bool.false_and, gI_sI, gI_sL, gI_sA, gI_sM, gL_sI, gL_sL, gL_sA, gL_sM, aI_sI, aI_sL, aI_sA, aI_sM, aL_sI, aL_sL, aL_sA, aL_sM, BisHeld_0, BisHeld_5, BisHeld_10, BisHeld_20, BisHeld_29, BisHeld_43, BisHeld_47, BisHeld_48, oi_0, oi_1, oi_2, oi_3, P_holdsValue]; try dsimp only
              refine ⟨Or.inr rfl, ?_⟩
              exact ⟨_, rfl, Or.inr rfl, rfl⟩
      · apply hB
        dsimp only [rgo, rfd, BisHeld, Nat.beq, rwp, rst, lv_args, rlk, rs1, rs2, rdl, rky, rct, rcs, rcd, rno, rsw, Value.category, List.filter, List.take, List.drop, List.reverse, List.reverseAux, List.cons_append, List.nil_append, Option.toList, Int.toNat, Int.reduceToNat, if_pos, if_neg, reduceIte, ↓reduceIte, Nat.reduceAdd, Nat.reduceEqDiff, Nat.reduceBEq, beq_self_eq_true, Bool.not_true, Bool.not_false, Bool.and_true, Bool.and_false, Bool.true_and, Bool.false_and, gI_sI, gI_sL, gI_sA, gI_sM, gL_sI, gL_sL, gL_sA, gL_sM, aI_sI, aI_sL, aI_sA, aI_sM, aL_sI, aL_sL, aL_sA, aL_sM, BisHeld_0, BisHeld_5, BisHeld_10, BisHeld_20, BisHeld_29, BisHeld_43, BisHeld_47, BisHeld_48, oi_0, oi_1, oi_2, oi_3, P_holdsValue]; try dsimp only
        refine ⟨fun h7 => ?_, fun h7 => ?_⟩
        · apply hB
          dsimp only [rgo, rfd, BisHeld, Nat.beq, rwp, rst, lv_args, rlk, rs1, rs2, rdl, rky, rct, rcs, rcd, rno, rsw, Value.category, List.filter, List.take, List.drop, List.reverse, List.reverseAux, List.cons_append, List.nil_append, Option.toList, Int.toNat, Int.reduceToNat, if_pos, if_neg, reduceIte, ↓reduceIte, Nat.reduceAdd, Nat.reduceEqDiff, Nat.reduceBEq, beq_self_eq_true, Bool.not_true, Bool.not_false, Bool.and_true, Bool.and_false, Bool.true_and, Bool.false_and, gI_sI, gI_sL, gI_sA, gI_sM, gL_sI, gL_sL, gL_sA, gL_sM, aI_sI, aI_sL, aI_sA, aI_sM, aL_sI, aL_sL, aL_sA, aL_sM, BisHeld_0, BisHeld_5, BisHeld_10, BisHeld_20, BisHeld_29, BisHeld_43, BisHeld_47, BisHeld_48, oi_0, oi_1, oi_2, oi_3, P_holdsValue]; try dsimp only
          apply hB
          dsimp only [rgo, rfd, BisHeld, Nat.beq, rwp, rst, lv_args, rlk, rs1, rs2, rdl, rky, rct, rcs, rcd, rno, rsw, Value.category, List.filter, List.take, List.drop, List.reverse, List.reverseAux, List.cons_append, List.nil_append, Option.toList, Int.toNat, Int.reduceToNat, if_pos, if_neg, reduceIte, ↓reduceIte, Nat.reduceAdd, Nat.reduceEqDiff, Nat.reduceBEq, beq_self_eq_true, Bool.not_true, Bool.not_false, Bool.and_true, Bool.and_false, Bool.true_and, Bool.false_and, gI_sI, gI_sL, gI_sA, gI_sM, gL_sI, gL_sL, gL_sA, gL_sM, aI_sI, aI_sL, aI_sA, aI_sM, aL_sI, aL_sL, aL_sA, aL_sM, BisHeld_0, BisHeld_5, BisHeld_10, BisHeld_20, BisHeld_29, BisHeld_43, BisHeld_47, BisHeld_48, oi_0, oi_1, oi_2, oi_3, P_holdsValue]; try dsimp only
          refine ⟨Or.inl rfl, ?_⟩
          exact ⟨_, rfl, Or.inl rfl, rfl⟩
        · apply hB
          dsimp only [rgo, rfd, BisHeld, Nat.beq, rwp, rst, lv_args, rlk, rs1, rs2, rdl, rky, rct, rcs, rcd, rno, rsw, Value.category, List.filter, List.take, List.drop, List.reverse, List.reverseAux, List.cons_append, List.nil_append, Option.toList, Int.toNat, Int.reduceToNat, if_pos, if_neg, reduceIte, ↓reduceIte, Nat.reduceAdd, Nat.reduceEqDiff, Nat.reduceBEq, beq_self_eq_true, Bool.not_true, Bool.not_false, Bool.and_true, Bool.and_false, Bool.true_and, Bool.false_and, gI_sI, gI_sL, gI_sA, gI_sM, gL_sI, gL_sL, gL_sA, gL_sM, aI_sI, aI_sL, aI_sA, aI_sM, aL_sI, aL_sL, aL_sA, aL_sM, BisHeld_0, BisHeld_5, BisHeld_10, BisHeld_20, BisHeld_29, BisHeld_43, BisHeld_47, BisHeld_48, oi_0, oi_1, oi_2, oi_3, P_holdsValue]; try dsimp only
          refine ⟨rfl, rfl, (in_70 (by lia) (by lia)), fun h8 => ?_, fun h8 => ?_⟩
          · apply hB
            dsimp only [rgo, rfd, BisHeld, Nat.beq, rwp, rst, lv_args, rlk, rs1, rs2, rdl, rky, rct, rcs, rcd, rno, rsw, Value.category, List.filter, List.take, List.drop, List.reverse, List.reverseAux, List.cons_append, List.nil_append, Option.toList, Int.toNat, Int.reduceToNat, if_pos, if_neg, reduceIte, ↓reduceIte, Nat.reduceAdd, Nat.reduceEqDiff, Nat.reduceBEq, beq_self_eq_true, Bool.not_true, Bool.not_false, Bool.and_true, Bool.and_false, Bool.true_and, Bool.false_and, gI_sI, gI_sL, gI_sA, gI_sM, gL_sI, gL_sL, gL_sA, gL_sM, aI_sI, aI_sL, aI_sA, aI_sM, aL_sI, aL_sL, aL_sA, aL_sM, BisHeld_0, BisHeld_5, BisHeld_10, BisHeld_20, BisHeld_29, BisHeld_43, BisHeld_47, BisHeld_48, oi_0, oi_1, oi_2, oi_3, P_holdsValue]; try dsimp only
            apply hB
            dsimp only [rgo, rfd, BisHeld, Nat.beq, rwp, rst, lv_args, rlk, rs1, rs2, rdl, rky, rct, rcs, rcd, rno, rsw, Value.category, List.filter, List.take, List.drop, List.reverse, List.reverseAux, List.cons_append, List.nil_append, Option.toList, Int.toNat, Int.reduceToNat, if_pos, if_neg, reduceIte, ↓reduceIte, Nat.reduceAdd, Nat.reduceEqDiff, Nat.reduceBEq, beq_self_eq_true, Bool.not_true, Bool.not_false, Bool.and_true, Bool.and_false, Bool.true_and, Bool.false_and, gI_sI, gI_sL, gI_sA, gI_sM, gL_sI, gL_sL, gL_sA, gL_sM, aI_sI, aI_sL, aI_sA, aI_sM, aL_sI, aL_sL, aL_sA, aL_sM, BisHeld_0, BisHeld_5, BisHeld_10, BisHeld_20, BisHeld_29, BisHeld_43, BisHeld_47, BisHeld_48, oi_0, oi_1, oi_2, oi_3, P_holdsValue]; try dsimp only
            refine ⟨Or.inl rfl, ?_⟩
            exact ⟨_, rfl, Or.inl rfl, rfl⟩
          · apply hB
            dsimp only [rgo, rfd, BisHeld, Nat.beq, rwp, rst, lv_args, rlk, rs1, rs2, rdl, rky, rct, rcs, rcd, rno, rsw, Value.category, List.filter, List.take, List.drop, List.reverse, List.reverseAux, List.cons_append, List.nil_append, Option.toList, Int.toNat, Int.reduceToNat, if_pos, if_neg, reduceIte, ↓reduceIte, Nat.reduceAdd, Nat.reduceEqDiff, Nat.reduceBEq, beq_self_eq_true, Bool.not_true, Bool.not_false, Bool.and_true, Bool.and_false, Bool.true_and, Bool.false_and, gI_sI, gI_sL, gI_sA, gI_sM, gL_sI, gL_sL, gL_sA, gL_sM, aI_sI, aI_sL, aI_sA, aI_sM, aL_sI, aL_sL, aL_sA, aL_sM, BisHeld_0, BisHeld_5, BisHeld_10, BisHeld_20, BisHeld_29, BisHeld_43, BisHeld_47, BisHeld_48, oi_0, oi_1, oi_2, oi_3, P_holdsValue]; try dsimp only
            refine ⟨rfl, rfl, (in_71 (by lia) (by lia)), fun h9 => ?_, fun h9 => ?_⟩
            · apply hB
              dsimp only [rgo, rfd, BisHeld, Nat.beq, rwp, rst, lv_args, rlk, rs1, rs2, rdl, rky, rct, rcs, rcd, rno, rsw, Value.category, List.filter, List.take, List.drop, List.reverse, List.reverseAux, List.cons_append, List.nil_append, Option.toList, Int.toNat, Int.reduceToNat, if_pos, if_neg, reduceIte, ↓reduceIte, Nat.reduceAdd, Nat.reduceEqDiff, Nat.reduceBEq, beq_self_eq_true, Bool.not_true, Bool.not_false, Bool.and_true, Bool.and_false, Bool.true_and, Bool.false_and, gI_sI, gI_sL, gI_sA, gI_sM, gL_sI, gL_sL, gL_sA, gL_sM, aI_sI, aI_sL, aI_sA, aI_sM, aL_sI, aL_sL, aL_sA, aL_sM, BisHeld_0, BisHeld_5, BisHeld_10, BisHeld_20, BisHeld_29, BisHeld_43, BisHeld_47, BisHeld_48, oi_0, oi_1, oi_2, oi_3, P_holdsValue]; try dsimp only
              apply hB
              dsimp only [rgo, rfd, BisHeld, Nat.beq, rwp, rst, lv_args, rlk, rs1, rs2, rdl, rky, rct, rcs, rcd, rno, rsw, Value.category, List.filter, List.take, List.drop, List.reverse, List.reverseAux, List.cons_append, List.nil_append, Option.toList, Int.toNat, Int.reduceToNat, if_pos, if_neg, reduceIte, ↓reduceIte, Nat.reduceAdd, Nat.reduceEqDiff, Nat.reduceBEq, beq_self_eq_true, Bool.not_true, Bool.not_false, Bool.and_true, Bool.and_false, Bool.true_and, Bool.false_and, gI_sI, gI_sL, gI_sA, gI_sM, gL_sI, gL_sL, gL_sA, gL_sM, aI_sI, aI_sL, aI_sA, aI_sM, aL_sI, aL_sL, aL_sA, aL_sM, BisHeld_0, BisHeld_5, BisHeld_10, BisHeld_20, BisHeld_29, BisHeld_43, BisHeld_47, BisHeld_48, oi_0, oi_1, oi_2, oi_3, P_holdsValue]; try dsimp only
              refine ⟨Or.inl rfl, ?_⟩
              exact ⟨_, rfl, Or.inl rfl, rfl⟩
            · apply hB
              dsimp only [rgo, rfd, BisHeld, Nat.beq, rwp, rst, lv_args, rlk, rs1, rs2, rdl, rky, rct, rcs, rcd, rno, rsw, Value.category, List.filter, List.take, List.drop, List.reverse, List.reverseAux, List.cons_append, List.nil_append, Option.toList, Int.toNat, Int.reduceToNat, if_pos, if_neg, reduceIte, ↓reduceIte, Nat.reduceAdd, Nat.reduceEqDiff, Nat.reduceBEq, beq_self_eq_true, Bool.not_true, Bool.not_false, Bool.and_true, Bool.and_false, Bool.true_and, Bool.false_and, gI_sI, gI_sL, gI_sA, gI_sM, gL_sI, gL_sL, gL_sA, gL_sM, aI_sI, aI_sL, aI_sA, aI_sM, aL_sI, aL_sL, aL_sA, aL_sM, BisHeld_0, BisHeld_5, BisHeld_10, BisHeld_20, BisHeld_29, BisHeld_43, BisHeld_47, BisHeld_48, oi_0, oi_1, oi_2, oi_3, P_holdsValue]; try dsimp only
              refine ⟨rfl, rfl, (in_72 (by lia) (by lia)), rfl, (by decide), (trivial), fun w10 τ10 hq10 => ?_⟩
              obtain ⟨r10, rfl, hr10, e10⟩ := hq10
              obtain rfl := e10.symm
              rcases hr10 with rfl | rfl
              · dsimp only [Option.toList, List.cons_append, List.nil_append, Nat.beq, gI_sI, gI_sL, gI_sA, gI_sM, gL_sI, gL_sL, gL_sA, gL_sM, aI_sI, aI_sL, aI_sA, aI_sM, aL_sI, aL_sL, aL_sA, aL_sM]
                refine ⟨fun h11 => ?_, fun h11 => absurd h11 (by decide)⟩
                clear h11
                apply hB
                dsimp only [rgo, rfd, BisHeld, Nat.beq, rwp, rst, lv_args, rlk, rs1, rs2, rdl, rky, rct, rcs, rcd, rno, rsw, Value.category, List.filter, List.take, List.drop, List.reverse, List.reverseAux, List.cons_append, List.nil_append, Option.toList, Int.toNat, Int.reduceToNat, if_pos, if_neg, reduceIte, ↓reduceIte, Nat.reduceAdd, Nat.reduceEqDiff, Nat.reduceBEq, beq_self_eq_true, Bool.not_true, Bool.not_false, Bool.and_true, Bool.and_false, Bool.true_and, Bool.false_and, gI_sI, gI_sL, gI_sA, gI_sM, gL_sI, gL_sL, gL_sA, gL_sM, aI_sI, aI_sL, aI_sA, aI_sM, aL_sI, aL_sL, aL_sA, aL_sM, BisHeld_0, BisHeld_5, BisHeld_10, BisHeld_20, BisHeld_29, BisHeld_43, BisHeld_47, BisHeld_48, oi_0, oi_1, oi_2, oi_3, P_holdsValue]; try dsimp only
                apply hB
                dsimp only [rgo, rfd, BisHeld, Nat.beq, rwp, rst, lv_args, rlk, rs1, rs2, rdl, rky, rct, rcs, rcd, rno, rsw, Value.category, List.filter, List.take, List.drop, List.reverse, List.reverseAux, List.cons_append, List.nil_append, Option.toList, Int.toNat, Int.reduceToNat, if_pos, if_neg, reduceIte, ↓reduceIte, Nat.reduceAdd, Nat.reduceEqDiff, Nat.reduceBEq, beq_self_eq_true, Bool.not_true, Bool.not_false, Bool.and_true, Bool.and_false, Bool.true_and, Bool.false_and, gI_sI, gI_sL, gI_sA, gI_sM, gL_sI, gL_sL, gL_sA, gL_sM, aI_sI, aI_sL, aI_sA, aI_sM, aL_sI, aL_sL, aL_sA, aL_sM, BisHeld_0, BisHeld_5, BisHeld_10, BisHeld_20, BisHeld_29, BisHeld_43, BisHeld_47, BisHeld_48, oi_0, oi_1, oi_2, oi_3, P_holdsValue]; try dsimp only
                refine ⟨Or.inl rfl, ?_⟩
                exact ⟨_, rfl, Or.inl rfl, rfl⟩
              · dsimp only [Option.toList, List.cons_append, List.nil_append, Nat.beq, gI_sI, gI_sL, gI_sA, gI_sM, gL_sI, gL_sL, gL_sA, gL_sM, aI_sI, aI_sL, aI_sA, aI_sM, aL_sI, aL_sL, aL_sA, aL_sM]
                refine ⟨fun h12 => absurd h12 (by decide), fun h12 => ?_⟩
                clear h12
                apply hB
                dsimp only [rgo, rfd, BisHeld, Nat.beq, rwp, rst, lv_args, rlk, rs1, rs2, rdl, rky, rct, rcs, rcd, rno, rsw, Value.category, List.filter, List.take, List.drop, List.reverse, List.reverseAux, List.cons_append, List.nil_append, Option.toList, Int.toNat, Int.reduceToNat, if_pos, if_neg, reduceIte, ↓reduceIte, Nat.reduceAdd, Nat.reduceEqDiff, Nat.reduceBEq, beq_self_eq_true, Bool.not_true, Bool.not_false, Bool.and_true, Bool.and_false, Bool.true_and, Bool.false_and, gI_sI, gI_sL, gI_sA, gI_sM, gL_sI, gL_sL, gL_sA, gL_sM, aI_sI, aI_sL, aI_sA, aI_sM, aL_sI, aL_sL, aL_sA, aL_sM, BisHeld_0, BisHeld_5, BisHeld_10, BisHeld_20, BisHeld_29, BisHeld_43, BisHeld_47, BisHeld_48, oi_0, oi_1, oi_2, oi_3, P_holdsValue]; try dsimp only
                apply hB
                dsimp only [rgo, rfd, BisHeld, Nat.beq, rwp, rst, lv_args, rlk, rs1, rs2, rdl, rky, rct, rcs, rcd, rno, rsw, Value.category, List.filter, List.take, List.drop, List.reverse, List.reverseAux, List.cons_append, List.nil_append, Option.toList, Int.toNat, Int.reduceToNat, if_pos, if_neg, reduceIte, ↓reduceIte, Nat.reduceAdd, Nat.reduceEqDiff, Nat.reduceBEq, beq_self_eq_true, Bool.not_true, Bool.not_false, Bool.and_true, Bool.and_false, Bool.true_and, Bool.false_and, gI_sI, gI_sL, gI_sA, gI_sM, gL_sI, gL_sL, gL_sA, gL_sM, aI_sI, aI_sL, aI_sA, aI_sM, aL_sI, aL_sL, aL_sA, aL_sM, BisHeld_0, BisHeld_5, BisHeld_10, BisHeld_20, BisHeld_29, BisHeld_43, BisHeld_47, BisHeld_48, oi_0, oi_1, oi_2, oi_3, P_holdsValue]; try dsimp only
                refine ⟨Or.inr rfl, ?_⟩
                exact ⟨_, rfl, Or.inr rfl, rfl⟩
    next => exact hP.elim
theorem m_isHeld (l : Launch) : RMet l 2 99 P_isHeld Q_isHeld := by
  refine RMet.by BisHeld [(74, P_holdsValue, Q_holdsValue)] roisHeld okBisHeld (ctc (m_holdsValue l) (by decide) ct0) ?_ b_isHeld
  · intro As σ hP
    unfold P_isHeld at hP
    split at hP
    next => exact Nat.le_of_ble_eq_true rfl
    next => exact hP.elim
set_option maxRecDepth 100000 in
theorem e_isHeld (l : Launch) : RMetE l 2 99 P_isHeld Q_isHeld := by
  refine RMetE.by BisHeld [(74, P_holdsValue, Q_holdsValue)] rfl rfl roisHeld okBisHeld (ctEc (e_holdsValue l) (by decide) ctE0) ?_ b_isHeld
  · intro As σ hP
    unfold P_isHeld at hP
    split at hP
    next => exact Nat.le_of_ble_eq_true rfl
    next => exact hP.elim
def P_need : RP := fun As σ => match As with
  | [.int s, .int want] => (0 ≤ s ∧ s < 700) ∧ (0 ≤ aI σ 73 s.toNatClampNeg ∧ aI σ 73 s.toNatClampNeg ≤ 2599)
  | _ => False
def Q_need : RQ := fun As σ w τ => match As with
  | [.int s, .int want] => ∃ r a b : Int32, w = some (.int r) ∧ τ = sI (sI σ 66 a) 67 b ∧ (a = 0 → (gI σ 66) = 0) ∧ ((r = 1 ∧ ¬ (aI σ 70 s.toNatClampNeg) = 5) ∨ (r = 0 ∧ (a = 0 → (aI σ 70 s.toNatClampNeg) = -2)))
  | _ => False
set_option maxRecDepth 100000 in
set_option maxHeartbeats 4000000 in
theorem b_need : Bod Bneed [(70, P_err, Q_err), (79, P_isBad, Q_isBad), (72, P_isNumber, Q_isNumber)] P_need Q_need := by
  · intro As σ hP G hB hW
    unfold P_need at hP
    split at hP
    next s want => 
      unfold Q_need at hB
      dsimp only at hB
      apply hB
      dsimp only [rgo, rfd, Bneed, Nat.beq, rwp, rst, lv_args, rlk, rs1, rs2, rdl, rky, rct, rcs, rcd, rno, rsw, Value.category, List.filter, List.take, List.drop, List.reverse, List.reverseAux, List.cons_append, List.nil_append, Option.toList, Int.toNat, Int.reduceToNat, if_pos, if_neg, reduceIte, ↓reduceIte, Nat.reduceAdd, Nat.reduceEqDiff, Nat.reduceBEq, beq_self_eq_true, Bool.not_true, Bool.not_false, Bool.and_true, Bool.and_false, Bool.true_and, Bool.false_and, gI_sI, gI_sL, gI_sA, gI_sM, gL_sI, gL_sL, gL_sA, gL_sM, aI_sI, aI_sL, aI_sA, aI_sM, aL_sI, aL_sL, aL_sA, aL_sM, Bneed_0, Bneed_8, Bneed_10, Bneed_14, Bneed_23, Bneed_26, Bneed_39, Bneed_41, oi_0, oi_1, oi_5, P_err, P_isBad, P_isNumber]; try dsimp only
      refine ⟨rfl, (by decide), (⟨by lia, by lia⟩), fun w1 τ1 hq1 => ?_⟩
      obtain ⟨r1, rfl, hr1, e1⟩ := hq1
      obtain rfl := e1.symm
      rcases hr1 with ⟨rfl, hb1⟩ | ⟨rfl, hb1⟩
      · dsimp only [Option.toList, List.cons_append, List.nil_append, Nat.beq, gI_sI, gI_sL, gI_sA, gI_sM, gL_sI, gL_sL, gL_sA, gL_sM, aI_sI, aI_sL, aI_sA, aI_sM, aL_sI, aL_sL, aL_sA, aL_sM]
        refine ⟨fun h2 => ?_, fun h2 => absurd h2 (by decide)⟩
        clear h2
        apply hB
        dsimp only [rgo, rfd, Bneed, Nat.beq, rwp, rst, lv_args, rlk, rs1, rs2, rdl, rky, rct, rcs, rcd, rno, rsw, Value.category, List.filter, List.take, List.drop, List.reverse, List.reverseAux, List.cons_append, List.nil_append, Option.toList, Int.toNat, Int.reduceToNat, if_pos, if_neg, reduceIte, ↓reduceIte, Nat.reduceAdd, Nat.reduceEqDiff, Nat.reduceBEq, beq_self_eq_true, Bool.not_true, Bool.not_false, Bool.and_true, Bool.and_false, Bool.true_and, Bool.false_and, gI_sI, gI_sL, gI_sA, gI_sM, gL_sI, gL_sL, gL_sA, gL_sM, aI_sI, aI_sL, aI_sA, aI_sM, aL_sI, aL_sL, aL_sA, aL_sM, Bneed_0, Bneed_8, Bneed_10, Bneed_14, Bneed_23, Bneed_26, Bneed_39, Bneed_41, oi_0, oi_1, oi_5, P_err, P_isBad, P_isNumber]; try dsimp only
        refine ⟨fun h3 => ?_, fun h3 => ?_⟩
        · apply hB
          dsimp only [rgo, rfd, Bneed, Nat.beq, rwp, rst, lv_args, rlk, rs1, rs2, rdl, rky, rct, rcs, rcd, rno, rsw, Value.category, List.filter, List.take, List.drop, List.reverse, List.reverseAux, List.cons_append, List.nil_append, Option.toList, Int.toNat, Int.reduceToNat, if_pos, if_neg, reduceIte, ↓reduceIte, Nat.reduceAdd, Nat.reduceEqDiff, Nat.reduceBEq, beq_self_eq_true, Bool.not_true, Bool.not_false, Bool.and_true, Bool.and_false, Bool.true_and, Bool.false_and, gI_sI, gI_sL, gI_sA, gI_sM, gL_sI, gL_sL, gL_sA, gL_sM, aI_sI, aI_sL, aI_sA, aI_sM, aL_sI, aL_sL, aL_sA, aL_sM, Bneed_0, Bneed_8, Bneed_10, Bneed_14, Bneed_23, Bneed_26, Bneed_39, Bneed_41, oi_0, oi_1, oi_5, P_err, P_isBad, P_isNumber]; try dsimp only
          refine ⟨rfl, rfl, (in_70 (by lia) (by lia)), rfl, (by decide), (trivial), fun w4 τ4 hq4 => ?_⟩
          obtain ⟨r4, rfl, hr4, e4⟩ := hq4
          obtain rfl := e4.symm
          rcases hr4 with rfl | ⟨rfl, hb4⟩
          · dsimp only [Option.toList, List.cons_append, List.nil_append, Nat.beq, gI_sI, gI_sL, gI_sA, gI_sM, gL_sI, gL_sL, gL_sA, gL_sM, aI_sI, aI_sL, aI_sA, aI_sM, aL_sI, aL_sL, aL_sA, aL_sM]
            refine ⟨fun h5 => ?_, fun h5 => absurd h5 (by decide)⟩
            clear h5
            apply hB
            dsimp only [rgo, rfd, Bneed, Nat.beq, rwp, rst, lv_args, rlk, rs1, rs2, rdl, rky, rct, rcs, rcd, rno, rsw, Value.category, List.filter, List.take, List.drop, List.reverse, List.reverseAux, List.cons_append, List.nil_append, Option.toList, Int.toNat, Int.reduceToNat, if_pos, if_neg, reduceIte, ↓reduceIte, Nat.reduceAdd, Nat.reduceEqDiff, Nat.reduceBEq, beq_self_eq_true, Bool.not_true, Bool.not_false, Bool.and_true, Bool.and_false, Bool.true_and, Bool.false_and, gI_sI, gI_sL, gI_sA, gI_sM, gL_sI, gL_sL, gL_sA, gL_sM, aI_sI, aI_sL, aI_sA, aI_sM, aL_sI, aL_sL, aL_sA, aL_sM, Bneed_0, Bneed_8, Bneed_10, Bneed_14, Bneed_23, Bneed_26, Bneed_39, Bneed_41, oi_0, oi_1, oi_5, P_err, P_isBad, P_isNumber]; try dsimp only
            refine ⟨rfl, rfl, (in_73 (by lia) (by lia)), rfl, (by decide), (⟨⟨by lia, by lia⟩, by decide⟩), fun w6 τ6 hq6 => ?_⟩
            obtain ⟨rfl, ea6, eb6, rfl, hne6⟩ := hq6
            dsimp only [Option.toList, List.cons_append, List.nil_append, Nat.beq, gI_sI, gI_sL, gI_sA, gI_sM, gL_sI, gL_sL, gL_sA, gL_sM, aI_sI, aI_sL, aI_sA, aI_sM, aL_sI, aL_sL, aL_sA, aL_sM]
            refine ⟨Or.inl rfl, ?_⟩
            exact ⟨_, _, _, rfl, rfl, fun h => absurd h hne6, Or.inr ⟨rfl, fun h => absurd h hne6⟩⟩
          · dsimp only [Option.toList, List.cons_append, List.nil_append, Nat.beq, gI_sI, gI_sL, gI_sA, gI_sM, gL_sI, gL_sL, gL_sA, gL_sM, aI_sI, aI_sL, aI_sA, aI_sM, aL_sI, aL_sL, aL_sA, aL_sM]
            refine ⟨fun h7 => absurd h7 (by decide), fun h7 => ?_⟩
            clear h7
            apply hB
            dsimp only [rgo, rfd, Bneed, Nat.beq, rwp, rst, lv_args, rlk, rs1, rs2, rdl, rky, rct, rcs, rcd, rno, rsw, Value.category, List.filter, List.take, List.drop, List.reverse, List.reverseAux, List.cons_append, List.nil_append, Option.toList, Int.toNat, Int.reduceToNat, if_pos, if_neg, reduceIte, ↓reduceIte, Nat.reduceAdd, Nat.reduceEqDiff, Nat.reduceBEq, beq_self_eq_true, Bool.not_true, Bool.not_false, Bool.and_true, Bool.and_false, Bool.true_and, Bool.false_and, gI_sI, gI_sL, gI_sA, gI_sM, gL_sI, gL_sL, gL_sA, gL_sM, aI_sI, aI_sL, aI_sA, aI_sM, aL_sI, aL_sL, aL_sA, aL_sM, Bneed_0, Bneed_8, Bneed_10, Bneed_14, Bneed_23, Bneed_26, Bneed_39, Bneed_41, oi_0, oi_1, oi_5, P_err, P_isBad, P_isNumber]; try dsimp only
            refine ⟨Or.inr rfl, ?_⟩
            exact ⟨_, gI σ 66, gI σ 67, rfl, by simp only [sI_id], fun h => h, Or.inl ⟨rfl, by lia⟩⟩
        · apply hB
          dsimp only [rgo, rfd, Bneed, Nat.beq, rwp, rst, lv_args, rlk, rs1, rs2, rdl, rky, rct, rcs, rcd, rno, rsw, Value.category, List.filter, List.take, List.drop, List.reverse, List.reverseAux, List.cons_append, List.nil_append, Option.toList, Int.toNat, Int.reduceToNat, if_pos, if_neg, reduceIte, ↓reduceIte, Nat.reduceAdd, Nat.reduceEqDiff, Nat.reduceBEq, beq_self_eq_true, Bool.not_true, Bool.not_false, Bool.and_true, Bool.and_false, Bool.true_and, Bool.false_and, gI_sI, gI_sL, gI_sA, gI_sM, gL_sI, gL_sL, gL_sA, gL_sM, aI_sI, aI_sL, aI_sA, aI_sM, aL_sI, aL_sL, aL_sA, aL_sM, Bneed_0, Bneed_8, Bneed_10, Bneed_14, Bneed_23, Bneed_26, Bneed_39, Bneed_41, oi_0, oi_1, oi_5, P_err, P_isBad, P_isNumber]; try dsimp only
          refine ⟨rfl, rfl, (in_70 (by lia) (by lia)), fun h8 => ?_, fun h8 => ?_⟩
          · apply hB
            dsimp only [rgo, rfd, Bneed, Nat.beq, rwp, rst, lv_args, rlk, rs1, rs2, rdl, rky, rct, rcs, rcd, rno, rsw, Value.category, List.filter, List.take, List.drop, List.reverse, List.reverseAux, List.cons_append, List.nil_append, Option.toList, Int.toNat, Int.reduceToNat, if_pos, if_neg, reduceIte, ↓reduceIte, Nat.reduceAdd, Nat.reduceEqDiff, Nat.reduceBEq, beq_self_eq_true, Bool.not_true, Bool.not_false, Bool.and_true, Bool.and_false, Bool.true_and, Bool.false_and, gI_sI, gI_sL, gI_sA, gI_sM, gL_sI, gL_sL, gL_sA, gL_sM, aI_sI, aI_sL, aI_sA, aI_sM, aL_sI, aL_sL, aL_sA, aL_sM, Bneed_0, Bneed_8, Bneed_10, Bneed_14, Bneed_23, Bneed_26, Bneed_39, Bneed_41, oi_0, oi_1, oi_5, P_err, P_isBad, P_isNumber]; try dsimp only
            refine ⟨rfl, rfl, (in_73 (by lia) (by lia)), rfl, (by decide), (⟨⟨by lia, by lia⟩, by decide⟩), fun w9 τ9 hq9 => ?_⟩
            obtain ⟨rfl, ea9, eb9, rfl, hne9⟩ := hq9
            dsimp only [Option.toList, List.cons_append, List.nil_append, Nat.beq, gI_sI, gI_sL, gI_sA, gI_sM, gL_sI, gL_sL, gL_sA, gL_sM, aI_sI, aI_sL, aI_sA, aI_sM, aL_sI, aL_sL, aL_sA, aL_sM]
            refine ⟨Or.inl rfl, ?_⟩
            exact ⟨_, _, _, rfl, rfl, fun h => absurd h hne9, Or.inr ⟨rfl, fun h => absurd h hne9⟩⟩
          · apply hB
            dsimp only [rgo, rfd, Bneed, Nat.beq, rwp, rst, lv_args, rlk, rs1, rs2, rdl, rky, rct, rcs, rcd, rno, rsw, Value.category, List.filter, List.take, List.drop, List.reverse, List.reverseAux, List.cons_append, List.nil_append, Option.toList, Int.toNat, Int.reduceToNat, if_pos, if_neg, reduceIte, ↓reduceIte, Nat.reduceAdd, Nat.reduceEqDiff, Nat.reduceBEq, beq_self_eq_true, Bool.not_true, Bool.not_false, Bool.and_true, Bool.and_false, Bool.true_and, Bool.false_and, gI_sI, gI_sL, gI_sA, gI_sM, gL_sI, gL_sL, gL_sA, gL_sM, aI_sI, aI_sL, aI_sA, aI_sM, aL_sI, aL_sL, aL_sA, aL_sM, Bneed_0, Bneed_8, Bneed_10, Bneed_14, Bneed_23, Bneed_26, Bneed_39, Bneed_41, oi_0, oi_1, oi_5, P_err, P_isBad, P_isNumber]; try dsimp only
            apply hB
            dsimp only [rgo, rfd, Bneed, Nat.beq, rwp, rst, lv_args, rlk, rs1, rs2, rdl, rky, rct, rcs, rcd, rno, rsw, Value.category, List.filter, List.take, List.drop, List.reverse, List.reverseAux, List.cons_append, List.nil_append, Option.toList, Int.toNat, Int.reduceToNat, if_pos, if_neg, reduceIte, ↓reduceIte, Nat.reduceAdd, Nat.reduceEqDiff, Nat.reduceBEq, beq_self_eq_true, Bool.not_true, Bool.not_false, Bool.and_true, Bool.and_false, Bool.true_and, Bool.false_and, gI_sI, gI_sL, gI_sA, gI_sM, gL_sI, gL_sL, gL_sA, gL_sM, aI_sI, aI_sL, aI_sA, aI_sM, aL_sI, aL_sL, aL_sA, aL_sM, Bneed_0, Bneed_8, Bneed_10, Bneed_14, Bneed_23, Bneed_26, Bneed_39, Bneed_41, oi_0, oi_1, oi_5, P_err, P_isBad, P_isNumber]; try dsimp only
            refine ⟨Or.inr rfl, ?_⟩
            exact ⟨_, gI σ 66, gI σ 67, rfl, by simp only [sI_id], fun h => h, Or.inl ⟨rfl, by lia⟩⟩
      · dsimp only [Option.toList, List.cons_append, List.nil_append, Nat.beq, gI_sI, gI_sL, gI_sA, gI_sM, gL_sI, gL_sL, gL_sA, gL_sM, aI_sI, aI_sL, aI_sA, aI_sM, aL_sI, aL_sL, aL_sA, aL_sM]
        refine ⟨fun h10 => absurd h10 (by decide), fun h10 => ?_⟩
        clear h10
        apply hB
        dsimp only [rgo, rfd, Bneed, Nat.beq, rwp, rst, lv_args, rlk, rs1, rs2, rdl, rky, rct, rcs, rcd, rno, rsw, Value.category, List.filter, List.take, List.drop, List.reverse, List.reverseAux, List.cons_append, List.nil_append, Option.toList, Int.toNat, Int.reduceToNat, if_pos, if_neg, reduceIte, ↓reduceIte, Nat.reduceAdd, Nat.reduceEqDiff, Nat.reduceBEq, beq_self_eq_true, Bool.not_true, Bool.not_false, Bool.and_true, Bool.and_false, Bool.true_and, Bool.false_and, gI_sI, gI_sL, gI_sA, gI_sM, gL_sI, gL_sL, gL_sA, gL_sM, aI_sI, aI_sL, aI_sA, aI_sM, aL_sI, aL_sL, aL_sA, aL_sM, Bneed_0, Bneed_8, Bneed_10, Bneed_14, Bneed_23, Bneed_26, Bneed_39, Bneed_41, oi_0, oi_1, oi_5, P_err, P_isBad, P_isNumber]; try dsimp only
        refine ⟨Or.inl rfl, ?_⟩
        exact ⟨_, gI σ 66, gI σ 67, rfl, by simp only [sI_id], fun h => h, Or.inr ⟨rfl, fun _ => hb1⟩⟩
    next => exact hP.elim
theorem m_need (l : Launch) : RMet l 2 80 P_need Q_need := by
  refine RMet.by Bneed [(70, P_err, Q_err), (79, P_isBad, Q_isBad), (72, P_isNumber, Q_isNumber)] roneed okBneed (ctc (m_err l) (by decide) (ctc (m_isBad l) (by decide) (ctc (m_isNumber l) (by decide) ct0))) ?_ b_need
  · intro As σ hP
    unfold P_need at hP
    split at hP
    next => exact Nat.le_of_ble_eq_true rfl
    next => exact hP.elim
set_option maxRecDepth 100000 in
theorem e_need (l : Launch) : RMetE l 2 80 P_need Q_need := by
  refine RMetE.by Bneed [(70, P_err, Q_err), (79, P_isBad, Q_isBad), (72, P_isNumber, Q_isNumber)] rfl rfl roneed okBneed (ctEc (e_err l) (by decide) (ctEc (e_isBad l) (by decide) (ctEc (e_isNumber l) (by decide) ctE0))) ?_ b_need
  · intro As σ hP
    unfold P_need at hP
    split at hP
    next => exact Nat.le_of_ble_eq_true rfl
    next => exact hP.elim
def P_pair : RP := fun As σ => match As with
  | [.int s, .int ei] => (0 ≤ s ∧ s < 700) ∧ (0 ≤ aI σ 73 s.toNatClampNeg ∧ aI σ 73 s.toNatClampNeg ≤ 2599)
  | _ => False
def Q_pair : RQ := fun As σ w τ => match As with
  | [.int s, .int ei] => ∃ r a b : Int32, w = some (.int r) ∧ τ = sI (sI σ 66 a) 67 b ∧ (a = 0 → (gI σ 66) = 0) ∧ ((r = 1 ∧ ¬ (aI σ 70 s.toNatClampNeg) = 5) ∨ (r = 0 ∧ (a = 0 → (aI σ 70 s.toNatClampNeg) = -2)))
  | _ => False
set_option maxRecDepth 100000 in
set_option maxHeartbeats 4000000 in
theorem b_pair : Bod Bpair [(80, P_need, Q_need)] P_pair Q_pair := by
  · intro As σ hP G hB hW
    unfold P_pair at hP
    split at hP
    next s ei => 
      unfold Q_pair at hB
      dsimp only at hB
      apply hB
      dsimp only [rgo, rfd, Bpair, Nat.beq, rwp, rst, lv_args, rlk, rs1, rs2, rdl, rky, rct, rcs, rcd, rno, rsw, Value.category, List.filter, List.take, List.drop, List.reverse, List.reverseAux, List.cons_append, List.nil_append, Option.toList, Int.toNat, Int.reduceToNat, if_pos, if_neg, reduceIte, ↓reduceIte, Nat.reduceAdd, Nat.reduceEqDiff, Nat.reduceBEq, beq_self_eq_true, Bool.not_true, Bool.not_false, Bool.and_true, Bool.and_false, Bool.true_and, Bool.false_and, gI_sI, gI_sL, gI_sA, gI_sM, gL_sI, gL_sL, gL_sA, gL_sM, aI_sI, aI_sL, aI_sA, aI_sM, aL_sI, aL_sL, aL_sA, aL_sM, Bpair_0, Bpair_4, Bpair_13, Bpair_15, oi_1, P_need]; try dsimp only
      refine ⟨fun h1 => ?_, fun h1 => ?_⟩
      · apply hB
        dsimp only [rgo, rfd, Bpair, Nat.beq, rwp, rst, lv_args, rlk, rs1, rs2, rdl, rky, rct, rcs, rcd, rno, rsw, Value.category, List.filter, List.take, List.drop, List.reverse, List.reverseAux, List.cons_append, List.nil_append, Option.toList, Int.toNat, Int.reduceToNat, if_pos, if_neg, reduceIte, ↓reduceIte, Nat.reduceAdd, Nat.reduceEqDiff, Nat.reduceBEq, beq_self_eq_true, Bool.not_true, Bool.not_false, Bool.and_true, Bool.and_false, Bool.true_and, Bool.false_and, gI_sI, gI_sL, gI_sA, gI_sM, gL_sI, gL_sL, gL_sA, gL_sM, aI_sI, aI_sL, aI_sA, aI_sM, aL_sI, aL_sL, aL_sA, aL_sM, Bpair_0, Bpair_4, Bpair_13, Bpair_15, oi_1, P_need]; try dsimp only
        refine ⟨rfl, (by decide), (⟨⟨by lia, by lia⟩, by lia, by lia⟩), fun w2 τ2 hq2 => ?_⟩
        obtain ⟨r2, na2, nb2, rfl, rfl, hna2, hr2⟩ := hq2
        rcases hr2 with ⟨rfl, hn2⟩ | ⟨rfl, hn2⟩
        · dsimp only [Option.toList, List.cons_append, List.nil_append, Nat.beq, gI_sI, gI_sL, gI_sA, gI_sM, gL_sI, gL_sL, gL_sA, gL_sM, aI_sI, aI_sL, aI_sA, aI_sM, aL_sI, aL_sL, aL_sA, aL_sM]
          refine ⟨Or.inr rfl, ?_⟩
          exact ⟨_, na2, nb2, rfl, rfl, hna2, Or.inl ⟨rfl, hn2⟩⟩
        · dsimp only [Option.toList, List.cons_append, List.nil_append, Nat.beq, gI_sI, gI_sL, gI_sA, gI_sM, gL_sI, gL_sL, gL_sA, gL_sM, aI_sI, aI_sL, aI_sA, aI_sM, aL_sI, aL_sL, aL_sA, aL_sM]
          refine ⟨Or.inl rfl, ?_⟩
          exact ⟨_, na2, nb2, rfl, rfl, hna2, Or.inr ⟨rfl, hn2⟩⟩
      · apply hB
        dsimp only [rgo, rfd, Bpair, Nat.beq, rwp, rst, lv_args, rlk, rs1, rs2, rdl, rky, rct, rcs, rcd, rno, rsw, Value.category, List.filter, List.take, List.drop, List.reverse, List.reverseAux, List.cons_append, List.nil_append, Option.toList, Int.toNat, Int.reduceToNat, if_pos, if_neg, reduceIte, ↓reduceIte, Nat.reduceAdd, Nat.reduceEqDiff, Nat.reduceBEq, beq_self_eq_true, Bool.not_true, Bool.not_false, Bool.and_true, Bool.and_false, Bool.true_and, Bool.false_and, gI_sI, gI_sL, gI_sA, gI_sM, gL_sI, gL_sL, gL_sA, gL_sM, aI_sI, aI_sL, aI_sA, aI_sM, aL_sI, aL_sL, aL_sA, aL_sM, Bpair_0, Bpair_4, Bpair_13, Bpair_15, oi_1, P_need]; try dsimp only
        refine ⟨rfl, rfl, (in_70 (by lia) (by lia)), fun h3 => ?_, fun h3 => ?_⟩
        · apply hB
          dsimp only [rgo, rfd, Bpair, Nat.beq, rwp, rst, lv_args, rlk, rs1, rs2, rdl, rky, rct, rcs, rcd, rno, rsw, Value.category, List.filter, List.take, List.drop, List.reverse, List.reverseAux, List.cons_append, List.nil_append, Option.toList, Int.toNat, Int.reduceToNat, if_pos, if_neg, reduceIte, ↓reduceIte, Nat.reduceAdd, Nat.reduceEqDiff, Nat.reduceBEq, beq_self_eq_true, Bool.not_true, Bool.not_false, Bool.and_true, Bool.and_false, Bool.true_and, Bool.false_and, gI_sI, gI_sL, gI_sA, gI_sM, gL_sI, gL_sL, gL_sA, gL_sM, aI_sI, aI_sL, aI_sA, aI_sM, aL_sI, aL_sL, aL_sA, aL_sM, Bpair_0, Bpair_4, Bpair_13, Bpair_15, oi_1, P_need]; try dsimp only
          refine ⟨rfl, (by decide), (⟨⟨by lia, by lia⟩, by lia, by lia⟩), fun w4 τ4 hq4 => ?_⟩
          obtain ⟨r4, na4, nb4, rfl, rfl, hna4, hr4⟩ := hq4
          rcases hr4 with ⟨rfl, hn4⟩ | ⟨rfl, hn4⟩
          · dsimp only [Option.toList, List.cons_append, List.nil_append, Nat.beq, gI_sI, gI_sL, gI_sA, gI_sM, gL_sI, gL_sL, gL_sA, gL_sM, aI_sI, aI_sL, aI_sA, aI_sM, aL_sI, aL_sL, aL_sA, aL_sM]
            refine ⟨Or.inr rfl, ?_⟩
            exact ⟨_, na4, nb4, rfl, rfl, hna4, Or.inl ⟨rfl, hn4⟩⟩
          · dsimp only [Option.toList, List.cons_append, List.nil_append, Nat.beq, gI_sI, gI_sL, gI_sA, gI_sM, gL_sI, gL_sL, gL_sA, gL_sM, aI_sI, aI_sL, aI_sA, aI_sM, aL_sI, aL_sL, aL_sA, aL_sM]
            refine ⟨Or.inl rfl, ?_⟩
            exact ⟨_, na4, nb4, rfl, rfl, hna4, Or.inr ⟨rfl, hn4⟩⟩
        · apply hB
          dsimp only [rgo, rfd, Bpair, Nat.beq, rwp, rst, lv_args, rlk, rs1, rs2, rdl, rky, rct, rcs, rcd, rno, rsw, Value.category, List.filter, List.take, List.drop, List.reverse, List.reverseAux, List.cons_append, List.nil_append, Option.toList, Int.toNat, Int.reduceToNat, if_pos, if_neg, reduceIte, ↓reduceIte, Nat.reduceAdd, Nat.reduceEqDiff, Nat.reduceBEq, beq_self_eq_true, Bool.not_true, Bool.not_false, Bool.and_true, Bool.and_false, Bool.true_and, Bool.false_and, gI_sI, gI_sL, gI_sA, gI_sM, gL_sI, gL_sL, gL_sA, gL_sM, aI_sI, aI_sL, aI_sA, aI_sM, aL_sI, aL_sL, aL_sA, aL_sM, Bpair_0, Bpair_4, Bpair_13, Bpair_15, oi_1, P_need]; try dsimp only
          refine ⟨Or.inr rfl, ?_⟩
          exact ⟨_, gI σ 66, gI σ 67, rfl, by simp only [sI_id], fun h => h, Or.inl ⟨rfl, by lia⟩⟩
    next => exact hP.elim
theorem m_pair (l : Launch) : RMet l 3 96 P_pair Q_pair := by
  refine RMet.by Bpair [(80, P_need, Q_need)] ropair okBpair (ctc (m_need l) (by decide) ct0) ?_ b_pair
  · intro As σ hP
    unfold P_pair at hP
    split at hP
    next => exact Nat.le_of_ble_eq_true rfl
    next => exact hP.elim
set_option maxRecDepth 100000 in
theorem e_pair (l : Launch) : RMetE l 3 96 P_pair Q_pair := by
  refine RMetE.by Bpair [(80, P_need, Q_need)] rfl rfl ropair okBpair (ctEc (e_need l) (by decide) ctE0) ?_ b_pair
  · intro As σ hP
    unfold P_pair at hP
    split at hP
    next => exact Nat.le_of_ble_eq_true rfl
    next => exact hP.elim
