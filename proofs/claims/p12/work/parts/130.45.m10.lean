def P_condition : RP := fun As σ => match As with
  | [] => ∃ s k j, PI σ [] s k j
  | _ => False
def Q_condition : RQ := fun As σ w τ => match As with
  | [] => ∃ r : Int32, w = some (.int r) ∧ ((r = 0 ∧ Fx σ τ) ∨ (r = 1 ∧ Fx σ τ ∧ (∀ s k j, PI σ [] s k j → PI τ [0] s k j) ∧ (∀ K, Fr σ K → Fr τ K) ∧ (gI σ 14) < (gI τ 14) ∧ (0 ≤ (gI τ 33) ∧ (gI τ 33) < (gI τ 18))))
  | _ => False
set_option maxRecDepth 100000 in
set_option maxHeartbeats 4000000 in
theorem b_condition : Bod Bcondition [(27, P_expression, Q_expression), (18, P_want, Q_want)] P_condition Q_condition := by
  · intro As σ hP G hB hW
    unfold P_condition at hP
    split at hP
    next => 
      unfold Q_condition at hB
      dsimp only at hB
      obtain ⟨ss, kk, jj, hPI⟩ := hP
      have nn := hPI.nums
      apply hB
      dsimp only [rgo, rfd, Bcondition, Nat.beq, rwp, rst, lv_args, rlk, rs1, rs2, rdl, rky, rct, rcs, rcd, rno, rsw, Value.category, List.filter, List.take, List.drop, List.reverse, List.reverseAux, List.cons_append, List.nil_append, Option.toList, Int.toNat, Int.reduceToNat, if_pos, if_neg, reduceIte, ↓reduceIte, Nat.reduceAdd, Nat.reduceEqDiff, Nat.reduceBEq, beq_self_eq_true, Bool.not_true, Bool.not_false, Bool.and_true, Bool.and_false, Bool.true_and, Bool.false_and, gI_sI, gI_sL, gI_sA, gI_sM, gL_sI, gL_sL, gL_sA, gL_sM, aI_sI, aI_sL, aI_sA, aI_sM, aL_sI, aL_sL, aL_sA, aL_sM, Bcondition_0, Bcondition_9, Bcondition_16, Bcondition_25, Bcondition_29, Bcondition_30, oi_0, oi_1, oi_40, oi_41, P_expression, P_want]; try dsimp only
      refine ⟨rfl, (by decide), (⟨by lia, by lia⟩), fun w1 τ1 hq1 => ?_⟩
      obtain ⟨r1, rfl, hq1⟩ := hq1
      rcases hq1 with ⟨rfl, hp1, hw1, rfl⟩ | ⟨rfl, fa1, fb1, rfl⟩
      · dsimp only [Option.toList, List.cons_append, List.nil_append, Nat.beq, gI_sI, gI_sL, gI_sA, gI_sM, gL_sI, gL_sL, gL_sA, gL_sM, aI_sI, aI_sL, aI_sA, aI_sM, aL_sI, aL_sL, aL_sA, aL_sM]
        try dsimp only [Option.toList, List.cons_append, List.nil_append, Nat.beq, gI_sI, gI_sL, gI_sA, gI_sM, gL_sI, gL_sL, gL_sA, gL_sM, aI_sI, aI_sL, aI_sA, aI_sM, aL_sI, aL_sL, aL_sA, aL_sM] at hp1
        refine ⟨fun h2 => absurd h2 (by decide), fun h2 => ?_⟩
        clear h2
        have hg := hPI.take (by assumption) rfl kk jj ⟨hPI.1.2.1.2.2, by omega⟩ ⟨hPI.1.2.2.2.2.2.2, by omega⟩
        apply hB
        dsimp only [rgo, rfd, Bcondition, Nat.beq, rwp, rst, lv_args, rlk, rs1, rs2, rdl, rky, rct, rcs, rcd, rno, rsw, Value.category, List.filter, List.take, List.drop, List.reverse, List.reverseAux, List.cons_append, List.nil_append, Option.toList, Int.toNat, Int.reduceToNat, if_pos, if_neg, reduceIte, ↓reduceIte, Nat.reduceAdd, Nat.reduceEqDiff, Nat.reduceBEq, beq_self_eq_true, Bool.not_true, Bool.not_false, Bool.and_true, Bool.and_false, Bool.true_and, Bool.false_and, gI_sI, gI_sL, gI_sA, gI_sM, gL_sI, gL_sL, gL_sA, gL_sM, aI_sI, aI_sL, aI_sA, aI_sM, aL_sI, aL_sL, aL_sA, aL_sM, Bcondition_0, Bcondition_9, Bcondition_16, Bcondition_25, Bcondition_29, Bcondition_30, oi_0, oi_1, oi_40, oi_41, P_expression, P_want]; try dsimp only
        refine ⟨rfl, (by decide), (hg.xp), fun w3 τ3 hq3 => ?_⟩
        obtain ⟨r3, rfl, hq3⟩ := hq3
        rcases hq3 with ⟨rfl, hf3⟩ | ⟨rfl, hx3⟩
        · dsimp only [Option.toList, List.cons_append, List.nil_append, Nat.beq, gI_sI, gI_sL, gI_sA, gI_sM, gL_sI, gL_sL, gL_sA, gL_sM, aI_sI, aI_sL, aI_sA, aI_sM, aL_sI, aL_sL, aL_sA, aL_sM]
          refine ⟨fun h4 => ?_, fun h4 => absurd h4 (by decide)⟩
          clear h4
          apply hB
          dsimp only [rgo, rfd, Bcondition, Nat.beq, rwp, rst, lv_args, rlk, rs1, rs2, rdl, rky, rct, rcs, rcd, rno, rsw, Value.category, List.filter, List.take, List.drop, List.reverse, List.reverseAux, List.cons_append, List.nil_append, Option.toList, Int.toNat, Int.reduceToNat, if_pos, if_neg, reduceIte, ↓reduceIte, Nat.reduceAdd, Nat.reduceEqDiff, Nat.reduceBEq, beq_self_eq_true, Bool.not_true, Bool.not_false, Bool.and_true, Bool.and_false, Bool.true_and, Bool.false_and, gI_sI, gI_sL, gI_sA, gI_sM, gL_sI, gL_sL, gL_sA, gL_sM, aI_sI, aI_sL, aI_sA, aI_sM, aL_sI, aL_sL, aL_sA, aL_sM, Bcondition_0, Bcondition_9, Bcondition_16, Bcondition_25, Bcondition_29, Bcondition_30, oi_0, oi_1, oi_40, oi_41, P_expression, P_want]; try dsimp only
          apply hB
          dsimp only [rgo, rfd, Bcondition, Nat.beq, rwp, rst, lv_args, rlk, rs1, rs2, rdl, rky, rct, rcs, rcd, rno, rsw, Value.category, List.filter, List.take, List.drop, List.reverse, List.reverseAux, List.cons_append, List.nil_append, Option.toList, Int.toNat, Int.reduceToNat, if_pos, if_neg, reduceIte, ↓reduceIte, Nat.reduceAdd, Nat.reduceEqDiff, Nat.reduceBEq, beq_self_eq_true, Bool.not_true, Bool.not_false, Bool.and_true, Bool.and_false, Bool.true_and, Bool.false_and, gI_sI, gI_sL, gI_sA, gI_sM, gL_sI, gL_sL, gL_sA, gL_sM, aI_sI, aI_sL, aI_sA, aI_sM, aL_sI, aL_sL, aL_sA, aL_sM, Bcondition_0, Bcondition_9, Bcondition_16, Bcondition_25, Bcondition_29, Bcondition_30, oi_0, oi_1, oi_40, oi_41, P_expression, P_want]; try dsimp only
          refine ⟨Or.inl rfl, ?_⟩
          exact ⟨_, rfl, Or.inl ⟨rfl, Fx.tr (by repeat (first | exact Fx.rf | refine Fx.a ?_ rfl | refine Fx.i ?_ rfl) : Fx σ (sI σ 14 (gI σ 14 + 1))) (hf3)⟩⟩
        · dsimp only [Option.toList, List.cons_append, List.nil_append, Nat.beq, gI_sI, gI_sL, gI_sA, gI_sM, gL_sI, gL_sL, gL_sA, gL_sM, aI_sI, aI_sL, aI_sA, aI_sM, aL_sI, aL_sL, aL_sA, aL_sM]
          have hpe3 := hg.exp hx3 kk ⟨hPI.1.2.1.2.2, by omega⟩
          have nne3 := hpe3.nums
          have hlt3 := t_lt hx3.2.2.1.1
          have hro3 := t_le (x := 0) (Int.le_trans (t_0 hx3.2.1.1) hx3.2.2.2.2.2.2.1)
          have hrl3 := t_lt hx3.2.2.2.2.2.2.2
          refine ⟨fun h5 => absurd h5 (by decide), fun h5 => ?_⟩
          clear h5
          apply hB
          dsimp only [rgo, rfd, Bcondition, Nat.beq, rwp, rst, lv_args, rlk, rs1, rs2, rdl, rky, rct, rcs, rcd, rno, rsw, Value.category, List.filter, List.take, List.drop, List.reverse, List.reverseAux, List.cons_append, List.nil_append, Option.toList, Int.toNat, Int.reduceToNat, if_pos, if_neg, reduceIte, ↓reduceIte, Nat.reduceAdd, Nat.reduceEqDiff, Nat.reduceBEq, beq_self_eq_true, Bool.not_true, Bool.not_false, Bool.and_true, Bool.and_false, Bool.true_and, Bool.false_and, gI_sI, gI_sL, gI_sA, gI_sM, gL_sI, gL_sL, gL_sA, gL_sM, aI_sI, aI_sL, aI_sA, aI_sM, aL_sI, aL_sL, aL_sA, aL_sM, Bcondition_0, Bcondition_9, Bcondition_16, Bcondition_25, Bcondition_29, Bcondition_30, oi_0, oi_1, oi_40, oi_41, P_expression, P_want]; try dsimp only
          refine ⟨rfl, (by decide), (⟨by lia, by lia⟩), fun w6 τ6 hq6 => ?_⟩
          obtain ⟨r6, rfl, hq6⟩ := hq6
          rcases hq6 with ⟨rfl, hp6, hw6, rfl⟩ | ⟨rfl, fa6, fb6, rfl⟩
          · dsimp only [Option.toList, List.cons_append, List.nil_append, Nat.beq, gI_sI, gI_sL, gI_sA, gI_sM, gL_sI, gL_sL, gL_sA, gL_sM, aI_sI, aI_sL, aI_sA, aI_sM, aL_sI, aL_sL, aL_sA, aL_sM]
            try dsimp only [Option.toList, List.cons_append, List.nil_append, Nat.beq, gI_sI, gI_sL, gI_sA, gI_sM, gL_sI, gL_sL, gL_sA, gL_sM, aI_sI, aI_sL, aI_sA, aI_sM, aL_sI, aL_sL, aL_sA, aL_sM] at hp6
            refine ⟨fun h7 => absurd h7 (by decide), fun h7 => ?_⟩
            clear h7
            apply hB
            dsimp only [rgo, rfd, Bcondition, Nat.beq, rwp, rst, lv_args, rlk, rs1, rs2, rdl, rky, rct, rcs, rcd, rno, rsw, Value.category, List.filter, List.take, List.drop, List.reverse, List.reverseAux, List.cons_append, List.nil_append, Option.toList, Int.toNat, Int.reduceToNat, if_pos, if_neg, reduceIte, ↓reduceIte, Nat.reduceAdd, Nat.reduceEqDiff, Nat.reduceBEq, beq_self_eq_true, Bool.not_true, Bool.not_false, Bool.and_true, Bool.and_false, Bool.true_and, Bool.false_and, gI_sI, gI_sL, gI_sA, gI_sM, gL_sI, gL_sL, gL_sA, gL_sM, aI_sI, aI_sL, aI_sA, aI_sM, aL_sI, aL_sL, aL_sA, aL_sM, Bcondition_0, Bcondition_9, Bcondition_16, Bcondition_25, Bcondition_29, Bcondition_30, oi_0, oi_1, oi_40, oi_41, P_expression, P_want]; try dsimp only
            apply hB
            dsimp only [rgo, rfd, Bcondition, Nat.beq, rwp, rst, lv_args, rlk, rs1, rs2, rdl, rky, rct, rcs, rcd, rno, rsw, Value.category, List.filter, List.take, List.drop, List.reverse, List.reverseAux, List.cons_append, List.nil_append, Option.toList, Int.toNat, Int.reduceToNat, if_pos, if_neg, reduceIte, ↓reduceIte, Nat.reduceAdd, Nat.reduceEqDiff, Nat.reduceBEq, beq_self_eq_true, Bool.not_true, Bool.not_false, Bool.and_true, Bool.and_false, Bool.true_and, Bool.false_and, gI_sI, gI_sL, gI_sA, gI_sM, gL_sI, gL_sL, gL_sA, gL_sM, aI_sI, aI_sL, aI_sA, aI_sM, aL_sI, aL_sL, aL_sA, aL_sM, Bcondition_0, Bcondition_9, Bcondition_16, Bcondition_25, Bcondition_29, Bcondition_30, oi_0, oi_1, oi_40, oi_41, P_expression, P_want]; try dsimp only
            refine ⟨Or.inr rfl, ?_⟩
            refine ⟨_, rfl, Or.inr ⟨rfl, ?_, ?_, fun K hK => Fr.exp hx3 K hK, ?_, ?_⟩⟩
            · exact (Fx.tr (by repeat (first | exact Fx.rf | refine Fx.a ?_ rfl | refine Fx.i ?_ rfl) : Fx σ (sI σ 14 (gI σ 14 + 1))) hx3.1).i rfl
            · intro s k j hσ
              have b1 := hσ.take (by assumption) rfl k j ⟨hσ.1.2.1.2.2, by omega⟩ ⟨hσ.1.2.2.2.2.2.2, by omega⟩
              have b2 := b1.exp hx3 k ⟨hσ.1.2.1.2.2, by omega⟩
              exact b2.take (by assumption) rfl k j ⟨hσ.1.2.1.2.2, by omega⟩ ⟨hσ.1.2.2.2.2.2.2, by omega⟩
            · show gI σ 14 < gI τ3 14 + 1
              have hl : gI σ 14 + 1 < gI τ3 14 := hlt3
              lia
            · exact ⟨hro3, hrl3⟩
          · dsimp only [Option.toList, List.cons_append, List.nil_append, Nat.beq, gI_sI, gI_sL, gI_sA, gI_sM, gL_sI, gL_sL, gL_sA, gL_sM, aI_sI, aI_sL, aI_sA, aI_sM, aL_sI, aL_sL, aL_sA, aL_sM]
            refine ⟨fun h8 => ?_, fun h8 => absurd h8 (by decide)⟩
            clear h8
            apply hB
            dsimp only [rgo, rfd, Bcondition, Nat.beq, rwp, rst, lv_args, rlk, rs1, rs2, rdl, rky, rct, rcs, rcd, rno, rsw, Value.category, List.filter, List.take, List.drop, List.reverse, List.reverseAux, List.cons_append, List.nil_append, Option.toList, Int.toNat, Int.reduceToNat, if_pos, if_neg, reduceIte, ↓reduceIte, Nat.reduceAdd, Nat.reduceEqDiff, Nat.reduceBEq, beq_self_eq_true, Bool.not_true, Bool.not_false, Bool.and_true, Bool.and_false, Bool.true_and, Bool.false_and, gI_sI, gI_sL, gI_sA, gI_sM, gL_sI, gL_sL, gL_sA, gL_sM, aI_sI, aI_sL, aI_sA, aI_sM, aL_sI, aL_sL, aL_sA, aL_sM, Bcondition_0, Bcondition_9, Bcondition_16, Bcondition_25, Bcondition_29, Bcondition_30, oi_0, oi_1, oi_40, oi_41, P_expression, P_want]; try dsimp only
            apply hB
            dsimp only [rgo, rfd, Bcondition, Nat.beq, rwp, rst, lv_args, rlk, rs1, rs2, rdl, rky, rct, rcs, rcd, rno, rsw, Value.category, List.filter, List.take, List.drop, List.reverse, List.reverseAux, List.cons_append, List.nil_append, Option.toList, Int.toNat, Int.reduceToNat, if_pos, if_neg, reduceIte, ↓reduceIte, Nat.reduceAdd, Nat.reduceEqDiff, Nat.reduceBEq, beq_self_eq_true, Bool.not_true, Bool.not_false, Bool.and_true, Bool.and_false, Bool.true_and, Bool.false_and, gI_sI, gI_sL, gI_sA, gI_sM, gL_sI, gL_sL, gL_sA, gL_sM, aI_sI, aI_sL, aI_sA, aI_sM, aL_sI, aL_sL, aL_sA, aL_sM, Bcondition_0, Bcondition_9, Bcondition_16, Bcondition_25, Bcondition_29, Bcondition_30, oi_0, oi_1, oi_40, oi_41, P_expression, P_want]; try dsimp only
            refine ⟨Or.inl rfl, ?_⟩
            exact ⟨_, rfl, Or.inl ⟨rfl, Fx.tr (by repeat (first | exact Fx.rf | refine Fx.a ?_ rfl | refine Fx.i ?_ rfl) : Fx σ (sI σ 14 (gI σ 14 + 1))) (hx3.1.tr (by repeat (first | exact Fx.rf | refine Fx.a ?_ rfl | refine Fx.i ?_ rfl)))⟩⟩
      · dsimp only [Option.toList, List.cons_append, List.nil_append, Nat.beq, gI_sI, gI_sL, gI_sA, gI_sM, gL_sI, gL_sL, gL_sA, gL_sM, aI_sI, aI_sL, aI_sA, aI_sM, aL_sI, aL_sL, aL_sA, aL_sM]
        refine ⟨fun h9 => ?_, fun h9 => absurd h9 (by decide)⟩
        clear h9
        apply hB
        dsimp only [rgo, rfd, Bcondition, Nat.beq, rwp, rst, lv_args, rlk, rs1, rs2, rdl, rky, rct, rcs, rcd, rno, rsw, Value.category, List.filter, List.take, List.drop, List.reverse, List.reverseAux, List.cons_append, List.nil_append, Option.toList, Int.toNat, Int.reduceToNat, if_pos, if_neg, reduceIte, ↓reduceIte, Nat.reduceAdd, Nat.reduceEqDiff, Nat.reduceBEq, beq_self_eq_true, Bool.not_true, Bool.not_false, Bool.and_true, Bool.and_false, Bool.true_and, Bool.false_and, gI_sI, gI_sL, gI_sA, gI_sM, gL_sI, gL_sL, gL_sA, gL_sM, aI_sI, aI_sL, aI_sA, aI_sM, aL_sI, aL_sL, aL_sA, aL_sM, Bcondition_0, Bcondition_9, Bcondition_16, Bcondition_25, Bcondition_29, Bcondition_30, oi_0, oi_1, oi_40, oi_41, P_expression, P_want]; try dsimp only
        apply hB
        dsimp only [rgo, rfd, Bcondition, Nat.beq, rwp, rst, lv_args, rlk, rs1, rs2, rdl, rky, rct, rcs, rcd, rno, rsw, Value.category, List.filter, List.take, List.drop, List.reverse, List.reverseAux, List.cons_append, List.nil_append, Option.toList, Int.toNat, Int.reduceToNat, if_pos, if_neg, reduceIte, ↓reduceIte, Nat.reduceAdd, Nat.reduceEqDiff, Nat.reduceBEq, beq_self_eq_true, Bool.not_true, Bool.not_false, Bool.and_true, Bool.and_false, Bool.true_and, Bool.false_and, gI_sI, gI_sL, gI_sA, gI_sM, gL_sI, gL_sL, gL_sA, gL_sM, aI_sI, aI_sL, aI_sA, aI_sM, aL_sI, aL_sL, aL_sA, aL_sM, Bcondition_0, Bcondition_9, Bcondition_16, Bcondition_25, Bcondition_29, Bcondition_30, oi_0, oi_1, oi_40, oi_41, P_expression, P_want]; try dsimp only
        refine ⟨Or.inl rfl, ?_⟩
        exact ⟨_, rfl, Or.inl ⟨rfl, by repeat (first | exact Fx.rf | refine Fx.a ?_ rfl | refine Fx.i ?_ rfl)⟩⟩
    next => exact hP.elim
theorem m_condition (l : Launch) : RMet l 7 52 P_condition Q_condition := by
  refine RMet.by Bcondition [(27, P_expression, Q_expression), (18, P_want, Q_want)] rocondition okBcondition (ctc (m_expression l) (by decide) (ctc (m_want l) (by decide) ct0)) ?_ b_condition
  · intro As σ hP
    unfold P_condition at hP
    split at hP
    next => exact Nat.le_of_ble_eq_true rfl
    next => exact hP.elim
set_option maxRecDepth 100000 in
theorem e_condition (l : Launch) : RMetE l 7 52 P_condition Q_condition := by
  refine RMetE.by Bcondition [(27, P_expression, Q_expression), (18, P_want, Q_want)] rfl rfl rocondition okBcondition (ctEc (e_expression l) (by decide) (ctEc (e_want l) (by decide) ctE0)) ?_ b_condition
  · intro As σ hP
    unfold P_condition at hP
    split at hP
    next => exact Nat.le_of_ble_eq_true rfl
    next => exact hP.elim
