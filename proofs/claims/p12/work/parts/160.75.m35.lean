def P_isCloser : RP := fun As σ => match As with
  | [.int m, .int o] => PJ σ ∧ (0 ≤ m ∧ (m < (gI σ 36) ∨ m = 10 ∨ m = 11)) ∧ (0 ≤ o ∧ (o < (gI σ 36) ∨ o = 10 ∨ o = 11)) ∧ ∃ n : Int32, (0 ≤ n ∧ n ≤ 600) ∧ ((m = 10 ∧ n = 1) ∨ (m = 11 ∧ n = 0) ∨ (m < 10 ∧ n = aI σ 39 m.toNatClampNeg)) ∧ ((o = 10 ∧ n = 1) ∨ (o = 11 ∧ n = 0) ∨ (o < 10 ∧ n = aI σ 39 o.toNatClampNeg))
  | _ => False
def Q_isCloser : RQ := fun As σ w τ => match As with
  | [.int m, .int o] => ∃ r : Int32, w = some (.int r) ∧ (r = 0 ∨ r = 1) ∧ τ = σ
  | _ => False
set_option maxRecDepth 100000 in
set_option maxHeartbeats 4000000 in
theorem b_isCloser : Bod BisCloser [(84, P_paramsOf, Q_paramsOf), (83, P_typeOfParam, Q_typeOfParam), (73, P_widens, Q_widens)] P_isCloser Q_isCloser := by
  · intro As σ hP G hB hW
    unfold P_isCloser at hP
    split at hP
    next m o => 
      unfold Q_isCloser at hB
      dsimp only at hB
      obtain ⟨⟨fd, s, kk, jj, hPI⟩, hm, ho, n, hn, hpm, hpo⟩ := hP
      have n36 : 0 ≤ gI σ 36 ∧ gI σ 36 ≤ 10 := hPI.nums.2.2.2.2.2.2.2
      have loop : ∀ k : Nat, ∀ i v : Int32, (4000 - i.toInt).toNat = k → (0 ≤ i ∧ i ≤ 700) → (v = 0 ∨ v = 1) → G 5 [(0, .ref 1000), (1, .int m), (2, .int o), (3, .int v), (4, .int i)] [] σ := by
        intro k
        induction k using Nat.strongRecOn with
        | ind k loop =>
          intro i v hk hi hv
          apply hB
          dsimp only [rgo, rfd, BisCloser, Nat.beq, rwp, rst, lv_args, rlk, rs1, rs2, rdl, rky, rct, rcs, rcd, rno, rsw, Value.category, List.filter, List.take, List.drop, List.reverse, List.reverseAux, List.cons_append, List.nil_append, Option.toList, Int.toNat, Int.reduceToNat, if_pos, if_neg, reduceIte, ↓reduceIte, Nat.reduceAdd, Nat.reduceEqDiff, Nat.reduceBEq, beq_self_eq_true, Bool.not_true, Bool.not_false, Bool.and_true, Bool.and_false, Bool.true_and, Bool.false_and, gI_sI, gI_sL, gI_sA, gI_sM, gL_sI, gL_sL, gL_sA, gL_sM, aI_sI, aI_sL, aI_sA, aI_sM, aL_sI, aL_sL, aL_sA, aL_sM, BisCloser_0, BisCloser_5, BisCloser_15, BisCloser_19, BisCloser_40, BisCloser_44, BisCloser_45, BisCloser_52, oi_0, oi_1, P_paramsOf, P_typeOfParam, P_widens]; try dsimp only
          refine ⟨rfl, (by decide), (⟨by lia, by lia⟩), fun w1 τ1 hq1 => ?_⟩
          obtain ⟨r1, rfl, hr1, e1⟩ := hq1
          obtain rfl := e1.symm
          dsimp only [Option.toList, List.cons_append, List.nil_append, Nat.beq, gI_sI, gI_sL, gI_sA, gI_sM, gL_sI, gL_sL, gL_sA, gL_sM, aI_sI, aI_sL, aI_sA, aI_sM, aL_sI, aL_sL, aL_sA, aL_sM]
          refine ⟨fun h2 => ?_, fun h2 => ?_⟩
          · apply hB
            dsimp only [rgo, rfd, BisCloser, Nat.beq, rwp, rst, lv_args, rlk, rs1, rs2, rdl, rky, rct, rcs, rcd, rno, rsw, Value.category, List.filter, List.take, List.drop, List.reverse, List.reverseAux, List.cons_append, List.nil_append, Option.toList, Int.toNat, Int.reduceToNat, if_pos, if_neg, reduceIte, ↓reduceIte, Nat.reduceAdd, Nat.reduceEqDiff, Nat.reduceBEq, beq_self_eq_true, Bool.not_true, Bool.not_false, Bool.and_true, Bool.and_false, Bool.true_and, Bool.false_and, gI_sI, gI_sL, gI_sA, gI_sM, gL_sI, gL_sL, gL_sA, gL_sM, aI_sI, aI_sL, aI_sA, aI_sM, aL_sI, aL_sL, aL_sA, aL_sM, BisCloser_0, BisCloser_5, BisCloser_15, BisCloser_19, BisCloser_40, BisCloser_44, BisCloser_45, BisCloser_52, oi_0, oi_1, P_paramsOf, P_typeOfParam, P_widens]; try dsimp only
            refine ⟨(hv), ?_⟩
            exact ⟨_, rfl, hv, rfl⟩
          · apply hB
            dsimp only [rgo, rfd, BisCloser, Nat.beq, rwp, rst, lv_args, rlk, rs1, rs2, rdl, rky, rct, rcs, rcd, rno, rsw, Value.category, List.filter, List.take, List.drop, List.reverse, List.reverseAux, List.cons_append, List.nil_append, Option.toList, Int.toNat, Int.reduceToNat, if_pos, if_neg, reduceIte, ↓reduceIte, Nat.reduceAdd, Nat.reduceEqDiff, Nat.reduceBEq, beq_self_eq_true, Bool.not_true, Bool.not_false, Bool.and_true, Bool.and_false, Bool.true_and, Bool.false_and, gI_sI, gI_sL, gI_sA, gI_sM, gL_sI, gL_sL, gL_sA, gL_sM, aI_sI, aI_sL, aI_sA, aI_sM, aL_sI, aL_sL, aL_sA, aL_sM, BisCloser_0, BisCloser_5, BisCloser_15, BisCloser_19, BisCloser_40, BisCloser_44, BisCloser_45, BisCloser_52, oi_0, oi_1, P_paramsOf, P_typeOfParam, P_widens]; try dsimp only
            refine ⟨fun h3 => ?_, fun h3 => ?_⟩
            · apply hB
              dsimp only [rgo, rfd, BisCloser, Nat.beq, rwp, rst, lv_args, rlk, rs1, rs2, rdl, rky, rct, rcs, rcd, rno, rsw, Value.category, List.filter, List.take, List.drop, List.reverse, List.reverseAux, List.cons_append, List.nil_append, Option.toList, Int.toNat, Int.reduceToNat, if_pos, if_neg, reduceIte, ↓reduceIte, Nat.reduceAdd, Nat.reduceEqDiff, Nat.reduceBEq, beq_self_eq_true, Bool.not_true, Bool.not_false, Bool.and_true, Bool.and_false, Bool.true_and, Bool.false_and, gI_sI, gI_sL, gI_sA, gI_sM, gL_sI, gL_sL, gL_sA, gL_sM, aI_sI, aI_sL, aI_sA, aI_sM, aL_sI, aL_sL, aL_sA, aL_sM, BisCloser_0, BisCloser_5, BisCloser_15, BisCloser_19, BisCloser_40, BisCloser_44, BisCloser_45, BisCloser_52, oi_0, oi_1, P_paramsOf, P_typeOfParam, P_widens]; try dsimp only
              apply hB
              dsimp only [rgo, rfd, BisCloser, Nat.beq, rwp, rst, lv_args, rlk, rs1, rs2, rdl, rky, rct, rcs, rcd, rno, rsw, Value.category, List.filter, List.take, List.drop, List.reverse, List.reverseAux, List.cons_append, List.nil_append, Option.toList, Int.toNat, Int.reduceToNat, if_pos, if_neg, reduceIte, ↓reduceIte, Nat.reduceAdd, Nat.reduceEqDiff, Nat.reduceBEq, beq_self_eq_true, Bool.not_true, Bool.not_false, Bool.and_true, Bool.and_false, Bool.true_and, Bool.false_and, gI_sI, gI_sL, gI_sA, gI_sM, gL_sI, gL_sL, gL_sA, gL_sM, aI_sI, aI_sL, aI_sA, aI_sM, aL_sI, aL_sL, aL_sA, aL_sM, BisCloser_0, BisCloser_5, BisCloser_15, BisCloser_19, BisCloser_40, BisCloser_44, BisCloser_45, BisCloser_52, oi_0, oi_1, P_paramsOf, P_typeOfParam, P_widens]; try dsimp only
              refine hW 5 [(0, .ref 1000), (1, .int m), (2, .int o), (3, .int 0), (4, .int (i + 1))] _ _ _ (by simp [rdl, rky]) (loop _ ?_ (i + 1) 0 rfl ⟨by lia, by lia⟩ (Or.inl rfl))
              exact mlt4 hk (by lia) (by lia)
            · apply hB
              dsimp only [rgo, rfd, BisCloser, Nat.beq, rwp, rst, lv_args, rlk, rs1, rs2, rdl, rky, rct, rcs, rcd, rno, rsw, Value.category, List.filter, List.take, List.drop, List.reverse, List.reverseAux, List.cons_append, List.nil_append, Option.toList, Int.toNat, Int.reduceToNat, if_pos, if_neg, reduceIte, ↓reduceIte, Nat.reduceAdd, Nat.reduceEqDiff, Nat.reduceBEq, beq_self_eq_true, Bool.not_true, Bool.not_false, Bool.and_true, Bool.and_false, Bool.true_and, Bool.false_and, gI_sI, gI_sL, gI_sA, gI_sM, gL_sI, gL_sL, gL_sA, gL_sM, aI_sI, aI_sL, aI_sA, aI_sM, aL_sI, aL_sL, aL_sA, aL_sM, BisCloser_0, BisCloser_5, BisCloser_15, BisCloser_19, BisCloser_40, BisCloser_44, BisCloser_45, BisCloser_52, oi_0, oi_1, P_paramsOf, P_typeOfParam, P_widens]; try dsimp only
              refine ⟨rfl, (by first | decide | exact Nat.le_of_ble_eq_true rfl), (⟨⟨fd, s, kk, jj, hPI⟩, by lia⟩), fun w4 τ4 hq4 => ?_⟩
              obtain ⟨r4, rfl, e4⟩ := hq4
              obtain rfl := e4.symm
              dsimp only [Option.toList, List.cons_append, List.nil_append, Nat.beq, gI_sI, gI_sL, gI_sA, gI_sM, gL_sI, gL_sL, gL_sA, gL_sM, aI_sI, aI_sL, aI_sA, aI_sM, aL_sI, aL_sL, aL_sA, aL_sM]
              refine ⟨rfl, (by first | decide | exact Nat.le_of_ble_eq_true rfl), (⟨⟨fd, s, kk, jj, hPI⟩, by lia⟩), fun w5 τ5 hq5 => ?_⟩
              obtain ⟨r5, rfl, e5⟩ := hq5
              obtain rfl := e5.symm
              dsimp only [Option.toList, List.cons_append, List.nil_append, Nat.beq, gI_sI, gI_sL, gI_sA, gI_sM, gL_sI, gL_sL, gL_sA, gL_sM, aI_sI, aI_sL, aI_sA, aI_sM, aL_sI, aL_sL, aL_sA, aL_sM]
              refine ⟨rfl, (by decide), (trivial), fun w6 τ6 hq6 => ?_⟩
              obtain ⟨r6, rfl, hr6, e6⟩ := hq6
              obtain rfl := e6.symm
              rcases hr6 with rfl | rfl
              · dsimp only [Option.toList, List.cons_append, List.nil_append, Nat.beq, gI_sI, gI_sL, gI_sA, gI_sM, gL_sI, gL_sL, gL_sA, gL_sM, aI_sI, aI_sL, aI_sA, aI_sM, aL_sI, aL_sL, aL_sA, aL_sM]
                refine ⟨fun h7 => ?_, fun h7 => absurd h7 (by decide)⟩
                clear h7
                apply hB
                dsimp only [rgo, rfd, BisCloser, Nat.beq, rwp, rst, lv_args, rlk, rs1, rs2, rdl, rky, rct, rcs, rcd, rno, rsw, Value.category, List.filter, List.take, List.drop, List.reverse, List.reverseAux, List.cons_append, List.nil_append, Option.toList, Int.toNat, Int.reduceToNat, if_pos, if_neg, reduceIte, ↓reduceIte, Nat.reduceAdd, Nat.reduceEqDiff, Nat.reduceBEq, beq_self_eq_true, Bool.not_true, Bool.not_false, Bool.and_true, Bool.and_false, Bool.true_and, Bool.false_and, gI_sI, gI_sL, gI_sA, gI_sM, gL_sI, gL_sL, gL_sA, gL_sM, aI_sI, aI_sL, aI_sA, aI_sM, aL_sI, aL_sL, aL_sA, aL_sM, BisCloser_0, BisCloser_5, BisCloser_15, BisCloser_19, BisCloser_40, BisCloser_44, BisCloser_45, BisCloser_52, oi_0, oi_1, P_paramsOf, P_typeOfParam, P_widens]; try dsimp only
                apply hB
                dsimp only [rgo, rfd, BisCloser, Nat.beq, rwp, rst, lv_args, rlk, rs1, rs2, rdl, rky, rct, rcs, rcd, rno, rsw, Value.category, List.filter, List.take, List.drop, List.reverse, List.reverseAux, List.cons_append, List.nil_append, Option.toList, Int.toNat, Int.reduceToNat, if_pos, if_neg, reduceIte, ↓reduceIte, Nat.reduceAdd, Nat.reduceEqDiff, Nat.reduceBEq, beq_self_eq_true, Bool.not_true, Bool.not_false, Bool.and_true, Bool.and_false, Bool.true_and, Bool.false_and, gI_sI, gI_sL, gI_sA, gI_sM, gL_sI, gL_sL, gL_sA, gL_sM, aI_sI, aI_sL, aI_sA, aI_sM, aL_sI, aL_sL, aL_sA, aL_sM, BisCloser_0, BisCloser_5, BisCloser_15, BisCloser_19, BisCloser_40, BisCloser_44, BisCloser_45, BisCloser_52, oi_0, oi_1, P_paramsOf, P_typeOfParam, P_widens]; try dsimp only
                refine hW 5 [(0, .ref 1000), (1, .int m), (2, .int o), (3, .int 0), (4, .int (i + 1))] _ _ _ (by simp [rdl, rky]) (loop _ ?_ (i + 1) 0 rfl ⟨by lia, by lia⟩ (Or.inl rfl))
                exact mlt4 hk (by lia) (by lia)
              · dsimp only [Option.toList, List.cons_append, List.nil_append, Nat.beq, gI_sI, gI_sL, gI_sA, gI_sM, gL_sI, gL_sL, gL_sA, gL_sM, aI_sI, aI_sL, aI_sA, aI_sM, aL_sI, aL_sL, aL_sA, aL_sM]
                refine ⟨fun h8 => absurd h8 (by decide), fun h8 => ?_⟩
                clear h8
                apply hB
                dsimp only [rgo, rfd, BisCloser, Nat.beq, rwp, rst, lv_args, rlk, rs1, rs2, rdl, rky, rct, rcs, rcd, rno, rsw, Value.category, List.filter, List.take, List.drop, List.reverse, List.reverseAux, List.cons_append, List.nil_append, Option.toList, Int.toNat, Int.reduceToNat, if_pos, if_neg, reduceIte, ↓reduceIte, Nat.reduceAdd, Nat.reduceEqDiff, Nat.reduceBEq, beq_self_eq_true, Bool.not_true, Bool.not_false, Bool.and_true, Bool.and_false, Bool.true_and, Bool.false_and, gI_sI, gI_sL, gI_sA, gI_sM, gL_sI, gL_sL, gL_sA, gL_sM, aI_sI, aI_sL, aI_sA, aI_sM, aL_sI, aL_sL, aL_sA, aL_sM, BisCloser_0, BisCloser_5, BisCloser_15, BisCloser_19, BisCloser_40, BisCloser_44, BisCloser_45, BisCloser_52, oi_0, oi_1, P_paramsOf, P_typeOfParam, P_widens]; try dsimp only
                apply hB
                dsimp only [rgo, rfd, BisCloser, Nat.beq, rwp, rst, lv_args, rlk, rs1, rs2, rdl, rky, rct, rcs, rcd, rno, rsw, Value.category, List.filter, List.take, List.drop, List.reverse, List.reverseAux, List.cons_append, List.nil_append, Option.toList, Int.toNat, Int.reduceToNat, if_pos, if_neg, reduceIte, ↓reduceIte, Nat.reduceAdd, Nat.reduceEqDiff, Nat.reduceBEq, beq_self_eq_true, Bool.not_true, Bool.not_false, Bool.and_true, Bool.and_false, Bool.true_and, Bool.false_and, gI_sI, gI_sL, gI_sA, gI_sM, gL_sI, gL_sL, gL_sA, gL_sM, aI_sI, aI_sL, aI_sA, aI_sM, aL_sI, aL_sL, aL_sA, aL_sM, BisCloser_0, BisCloser_5, BisCloser_15, BisCloser_19, BisCloser_40, BisCloser_44, BisCloser_45, BisCloser_52, oi_0, oi_1, P_paramsOf, P_typeOfParam, P_widens]; try dsimp only
                refine hW 5 [(0, .ref 1000), (1, .int m), (2, .int o), (3, .int 1), (4, .int (i + 1))] _ _ _ (by simp [rdl, rky]) (loop _ ?_ (i + 1) 1 rfl ⟨by lia, by lia⟩ (Or.inr rfl))
                exact mlt4 hk (by lia) (by lia)
      apply hB
      dsimp only [rgo, rfd, BisCloser, Nat.beq, rwp, rst, lv_args, rlk, rs1, rs2, rdl, rky, rct, rcs, rcd, rno, rsw, Value.category, List.filter, List.take, List.drop, List.reverse, List.reverseAux, List.cons_append, List.nil_append, Option.toList, Int.toNat, Int.reduceToNat, if_pos, if_neg, reduceIte, ↓reduceIte, Nat.reduceAdd, Nat.reduceEqDiff, Nat.reduceBEq, beq_self_eq_true, Bool.not_true, Bool.not_false, Bool.and_true, Bool.and_false, Bool.true_and, Bool.false_and, gI_sI, gI_sL, gI_sA, gI_sM, gL_sI, gL_sL, gL_sA, gL_sM, aI_sI, aI_sL, aI_sA, aI_sM, aL_sI, aL_sL, aL_sA, aL_sM, BisCloser_0, BisCloser_5, BisCloser_15, BisCloser_19, BisCloser_40, BisCloser_44, BisCloser_45, BisCloser_52, oi_0, oi_1, P_paramsOf, P_typeOfParam, P_widens]; try dsimp only
      exact hW 5 [(0, .ref 1000), (1, .int m), (2, .int o), (3, .int 1), (4, .int 0)] _ _ _ (by simp [rdl, rky]) (loop _ 0 1 rfl ⟨by decide, by decide⟩ (Or.inr rfl))
    next => exact hP.elim
theorem m_isCloser (l : Launch) : RMet l 2 102 P_isCloser Q_isCloser := by
  refine RMet.by BisCloser [(84, P_paramsOf, Q_paramsOf), (83, P_typeOfParam, Q_typeOfParam), (73, P_widens, Q_widens)] roisCloser okBisCloser (ctc (m_paramsOf l) (by decide) (ctc (m_typeOfParam l) (by decide) (ctc (m_widens l) (by decide) ct0))) ?_ b_isCloser
  · intro As σ hP
    unfold P_isCloser at hP
    split at hP
    next => exact Nat.le_of_ble_eq_true rfl
    next => exact hP.elim
set_option maxRecDepth 100000 in
theorem e_isCloser (l : Launch) : RMetE l 2 102 P_isCloser Q_isCloser := by
  refine RMetE.by BisCloser [(84, P_paramsOf, Q_paramsOf), (83, P_typeOfParam, Q_typeOfParam), (73, P_widens, Q_widens)] rfl rfl roisCloser okBisCloser (ctEc (e_paramsOf l) (by decide) (ctEc (e_typeOfParam l) (by decide) (ctEc (e_widens l) (by decide) ctE0))) ?_ b_isCloser
  · intro As σ hP
    unfold P_isCloser at hP
    split at hP
    next => exact Nat.le_of_ble_eq_true rfl
    next => exact hP.elim
