def P_takes : RP := fun As σ => match As with
  | [.int m, .int fi, .int n] => PJ σ ∧ (0 ≤ m ∧ (m < (gI σ 36) ∨ m = 10 ∨ m = 11)) ∧ (0 ≤ fi ∧ fi ≤ 600) ∧ (0 ≤ n ∧ n ≤ 600 ∧ fi + n ≤ 700)
  | _ => False
def Q_takes : RQ := fun As σ w τ => match As with
  | [.int m, .int fi, .int n] => ∃ r : Int32, w = some (.int r) ∧ (r = 0 ∨ (r = 1 ∧ ((m = 10 ∧ n = 1) ∨ (m = 11 ∧ n = 0) ∨ (m < 10 ∧ n = aI σ 39 m.toNatClampNeg)))) ∧ τ = σ
  | _ => False
set_option maxRecDepth 100000 in
set_option maxHeartbeats 4000000 in
theorem b_takes : Bod Btakes [(84, P_paramsOf, Q_paramsOf), (83, P_typeOfParam, Q_typeOfParam), (73, P_widens, Q_widens)] P_takes Q_takes := by
  · intro As σ hP G hB hW
    unfold P_takes at hP
    split at hP
    next m fi n => 
      unfold Q_takes at hB
      dsimp only at hB
      obtain ⟨⟨fd, s, kk, jj, hPI⟩, hm, hfi, hnn⟩ := hP
      have n42 : 0 ≤ gI σ 42 ∧ gI σ 42 ≤ 60 := hPI.nums.2.2.2.2.2.2.1
      have n36 : 0 ≤ gI σ 36 ∧ gI σ 36 ≤ 10 := hPI.nums.2.2.2.2.2.2.2
      have hmt : 0 ≤ m → m < gI σ 36 → (0 ≤ aI σ 37 m.toNatClampNeg ∧ aI σ 37 m.toNatClampNeg ≤ 500) ∧ (0 ≤ aI σ 39 m.toNatClampNeg ∧ aI σ 39 m.toNatClampNeg ≤ 6) ∧ (0 ≤ aI σ 40 m.toNatClampNeg ∧ aI σ 40 m.toNatClampNeg + aI σ 39 m.toNatClampNeg ≤ gI σ 42 ∧ aI σ 40 m.toNatClampNeg ≤ gI σ 42) := fun h0 h1 => by
        have q := hPI.2.2.2.2.2.2.2.2.1.2 (nT m) (nT_lt h0 h1)
        exact ⟨q.1, q.2.1, q.2.2.1⟩
      have loop : ∀ k : Nat, ∀ i v : Int32, (4000 - i.toInt).toNat = k → (0 ≤ i ∧ i ≤ n) → (v = 0 ∨ (v = 1 ∧ ((m = 10 ∧ n = 1) ∨ (m = 11 ∧ n = 0) ∨ (m < 10 ∧ n = aI σ 39 m.toNatClampNeg)))) → G 19 [(0, .ref 1000), (1, .int m), (2, .int fi), (3, .int n), (4, .int v), (5, .int i)] [] σ := by
        intro k
        induction k using Nat.strongRecOn with
        | ind k loop =>
          intro i v hk hi hv
          have hv01 : v = 0 ∨ v = 1 := hv.imp id (fun q => q.1)
          apply hB
          dsimp only [rgo, rfd, Btakes, Nat.beq, rwp, rst, lv_args, rlk, rs1, rs2, rdl, rky, rct, rcs, rcd, rno, rsw, Value.category, List.filter, List.take, List.drop, List.reverse, List.reverseAux, List.cons_append, List.nil_append, Option.toList, Int.toNat, Int.reduceToNat, if_pos, if_neg, reduceIte, ↓reduceIte, Nat.reduceAdd, Nat.reduceEqDiff, Nat.reduceBEq, beq_self_eq_true, Bool.not_true, Bool.not_false, Bool.and_true, Bool.and_false, Bool.true_and, Bool.false_and, gI_sI, gI_sL, gI_sA, gI_sM, gL_sI, gL_sL, gL_sA, gL_sM, aI_sI, aI_sL, aI_sA, aI_sM, aL_sI, aL_sL, aL_sA, aL_sM, Btakes_0, Btakes_9, Btakes_13, Btakes_14, Btakes_19, Btakes_25, Btakes_30, Btakes_58, oi_0, oi_1, P_paramsOf, P_typeOfParam, P_widens]; try dsimp only
          refine ⟨fun h1 => ?_, fun h1 => ?_⟩
          · apply hB
            dsimp only [rgo, rfd, Btakes, Nat.beq, rwp, rst, lv_args, rlk, rs1, rs2, rdl, rky, rct, rcs, rcd, rno, rsw, Value.category, List.filter, List.take, List.drop, List.reverse, List.reverseAux, List.cons_append, List.nil_append, Option.toList, Int.toNat, Int.reduceToNat, if_pos, if_neg, reduceIte, ↓reduceIte, Nat.reduceAdd, Nat.reduceEqDiff, Nat.reduceBEq, beq_self_eq_true, Bool.not_true, Bool.not_false, Bool.and_true, Bool.and_false, Bool.true_and, Bool.false_and, gI_sI, gI_sL, gI_sA, gI_sM, gL_sI, gL_sL, gL_sA, gL_sM, aI_sI, aI_sL, aI_sA, aI_sM, aL_sI, aL_sL, aL_sA, aL_sM, Btakes_0, Btakes_9, Btakes_13, Btakes_14, Btakes_19, Btakes_25, Btakes_30, Btakes_58, oi_0, oi_1, P_paramsOf, P_typeOfParam, P_widens]; try dsimp only
            refine ⟨(hv01), ?_⟩
            exact ⟨_, rfl, hv, rfl⟩
          · apply hB
            dsimp only [rgo, rfd, Btakes, Nat.beq, rwp, rst, lv_args, rlk, rs1, rs2, rdl, rky, rct, rcs, rcd, rno, rsw, Value.category, List.filter, List.take, List.drop, List.reverse, List.reverseAux, List.cons_append, List.nil_append, Option.toList, Int.toNat, Int.reduceToNat, if_pos, if_neg, reduceIte, ↓reduceIte, Nat.reduceAdd, Nat.reduceEqDiff, Nat.reduceBEq, beq_self_eq_true, Bool.not_true, Bool.not_false, Bool.and_true, Bool.and_false, Bool.true_and, Bool.false_and, gI_sI, gI_sL, gI_sA, gI_sM, gL_sI, gL_sL, gL_sA, gL_sM, aI_sI, aI_sL, aI_sA, aI_sM, aL_sI, aL_sL, aL_sA, aL_sM, Btakes_0, Btakes_9, Btakes_13, Btakes_14, Btakes_19, Btakes_25, Btakes_30, Btakes_58, oi_0, oi_1, P_paramsOf, P_typeOfParam, P_widens]; try dsimp only
            refine ⟨fun h2 => ?_, fun h2 => ?_⟩
            · apply hB
              dsimp only [rgo, rfd, Btakes, Nat.beq, rwp, rst, lv_args, rlk, rs1, rs2, rdl, rky, rct, rcs, rcd, rno, rsw, Value.category, List.filter, List.take, List.drop, List.reverse, List.reverseAux, List.cons_append, List.nil_append, Option.toList, Int.toNat, Int.reduceToNat, if_pos, if_neg, reduceIte, ↓reduceIte, Nat.reduceAdd, Nat.reduceEqDiff, Nat.reduceBEq, beq_self_eq_true, Bool.not_true, Bool.not_false, Bool.and_true, Bool.and_false, Bool.true_and, Bool.false_and, gI_sI, gI_sL, gI_sA, gI_sM, gL_sI, gL_sL, gL_sA, gL_sM, aI_sI, aI_sL, aI_sA, aI_sM, aL_sI, aL_sL, aL_sA, aL_sM, Btakes_0, Btakes_9, Btakes_13, Btakes_14, Btakes_19, Btakes_25, Btakes_30, Btakes_58, oi_0, oi_1, P_paramsOf, P_typeOfParam, P_widens]; try dsimp only
              refine ⟨(hv01), ?_⟩
              exact ⟨_, rfl, hv, rfl⟩
            · have hpp : (m = 10 ∧ n = 1) ∨ (m = 11 ∧ n = 0) ∨ (m < 10 ∧ n = aI σ 39 m.toNatClampNeg) := hv.elim (fun q => absurd q (by lia)) (fun q => q.2)
              apply hB
              dsimp only [rgo, rfd, Btakes, Nat.beq, rwp, rst, lv_args, rlk, rs1, rs2, rdl, rky, rct, rcs, rcd, rno, rsw, Value.category, List.filter, List.take, List.drop, List.reverse, List.reverseAux, List.cons_append, List.nil_append, Option.toList, Int.toNat, Int.reduceToNat, if_pos, if_neg, reduceIte, ↓reduceIte, Nat.reduceAdd, Nat.reduceEqDiff, Nat.reduceBEq, beq_self_eq_true, Bool.not_true, Bool.not_false, Bool.and_true, Bool.and_false, Bool.true_and, Bool.false_and, gI_sI, gI_sL, gI_sA, gI_sM, gL_sI, gL_sL, gL_sA, gL_sM, aI_sI, aI_sL, aI_sA, aI_sM, aL_sI, aL_sL, aL_sA, aL_sM, Btakes_0, Btakes_9, Btakes_13, Btakes_14, Btakes_19, Btakes_25, Btakes_30, Btakes_58, oi_0, oi_1, P_paramsOf, P_typeOfParam, P_widens]; try dsimp only
              refine ⟨rfl, rfl, (in_70 (by lia) (by lia)), rfl, (by decide), (⟨⟨fd, s, kk, jj, hPI⟩, by lia⟩), fun w3 τ3 hq3 => ?_⟩
              obtain ⟨r3, rfl, e3⟩ := hq3
              obtain rfl := e3.symm
              dsimp only [Option.toList, List.cons_append, List.nil_append, Nat.beq, gI_sI, gI_sL, gI_sA, gI_sM, gL_sI, gL_sL, gL_sA, gL_sM, aI_sI, aI_sL, aI_sA, aI_sM, aL_sI, aL_sL, aL_sA, aL_sM]
              refine ⟨rfl, (by decide), (trivial), fun w4 τ4 hq4 => ?_⟩
              obtain ⟨r4, rfl, hr4, e4⟩ := hq4
              obtain rfl := e4.symm
              rcases hr4 with rfl | rfl
              · dsimp only [Option.toList, List.cons_append, List.nil_append, Nat.beq, gI_sI, gI_sL, gI_sA, gI_sM, gL_sI, gL_sL, gL_sA, gL_sM, aI_sI, aI_sL, aI_sA, aI_sM, aL_sI, aL_sL, aL_sA, aL_sM]
                refine hW 19 [(0, .ref 1000), (1, .int m), (2, .int fi), (3, .int n), (4, .int 0), (5, .int (i + 1))] _ _ _ (by simp [rdl, rky]) (loop _ ?_ (i + 1) 0 rfl ⟨by lia, by lia⟩ (Or.inl rfl))
                exact mlt4 hk (by lia) (by lia)
              · dsimp only [Option.toList, List.cons_append, List.nil_append, Nat.beq, gI_sI, gI_sL, gI_sA, gI_sM, gL_sI, gL_sL, gL_sA, gL_sM, aI_sI, aI_sL, aI_sA, aI_sM, aL_sI, aL_sL, aL_sA, aL_sM]
                refine hW 19 [(0, .ref 1000), (1, .int m), (2, .int fi), (3, .int n), (4, .int 1), (5, .int (i + 1))] _ _ _ (by simp [rdl, rky]) (loop _ ?_ (i + 1) 1 rfl ⟨by lia, by lia⟩ (Or.inr ⟨rfl, hpp⟩))
                exact mlt4 hk (by lia) (by lia)
      apply hB
      dsimp only [rgo, rfd, Btakes, Nat.beq, rwp, rst, lv_args, rlk, rs1, rs2, rdl, rky, rct, rcs, rcd, rno, rsw, Value.category, List.filter, List.take, List.drop, List.reverse, List.reverseAux, List.cons_append, List.nil_append, Option.toList, Int.toNat, Int.reduceToNat, if_pos, if_neg, reduceIte, ↓reduceIte, Nat.reduceAdd, Nat.reduceEqDiff, Nat.reduceBEq, beq_self_eq_true, Bool.not_true, Bool.not_false, Bool.and_true, Bool.and_false, Bool.true_and, Bool.false_and, gI_sI, gI_sL, gI_sA, gI_sM, gL_sI, gL_sL, gL_sA, gL_sM, aI_sI, aI_sL, aI_sA, aI_sM, aL_sI, aL_sL, aL_sA, aL_sM, Btakes_0, Btakes_9, Btakes_13, Btakes_14, Btakes_19, Btakes_25, Btakes_30, Btakes_58, oi_0, oi_1, P_paramsOf, P_typeOfParam, P_widens]; try dsimp only
      refine ⟨rfl, (by decide), (⟨by lia, by lia⟩), fun w1 τ1 hq1 => ?_⟩
      obtain ⟨r1, rfl, hr1, e1⟩ := hq1
      obtain rfl := e1.symm
      dsimp only [Option.toList, List.cons_append, List.nil_append, Nat.beq, gI_sI, gI_sL, gI_sA, gI_sM, gL_sI, gL_sL, gL_sA, gL_sM, aI_sI, aI_sL, aI_sA, aI_sM, aL_sI, aL_sL, aL_sA, aL_sM]
      refine ⟨fun h2 => ?_, fun h2 => ?_⟩
      · apply hB
        dsimp only [rgo, rfd, Btakes, Nat.beq, rwp, rst, lv_args, rlk, rs1, rs2, rdl, rky, rct, rcs, rcd, rno, rsw, Value.category, List.filter, List.take, List.drop, List.reverse, List.reverseAux, List.cons_append, List.nil_append, Option.toList, Int.toNat, Int.reduceToNat, if_pos, if_neg, reduceIte, ↓reduceIte, Nat.reduceAdd, Nat.reduceEqDiff, Nat.reduceBEq, beq_self_eq_true, Bool.not_true, Bool.not_false, Bool.and_true, Bool.and_false, Bool.true_and, Bool.false_and, gI_sI, gI_sL, gI_sA, gI_sM, gL_sI, gL_sL, gL_sA, gL_sM, aI_sI, aI_sL, aI_sA, aI_sM, aL_sI, aL_sL, aL_sA, aL_sM, Btakes_0, Btakes_9, Btakes_13, Btakes_14, Btakes_19, Btakes_25, Btakes_30, Btakes_58, oi_0, oi_1, P_paramsOf, P_typeOfParam, P_widens]; try dsimp only
        apply hB
        dsimp only [rgo, rfd, Btakes, Nat.beq, rwp, rst, lv_args, rlk, rs1, rs2, rdl, rky, rct, rcs, rcd, rno, rsw, Value.category, List.filter, List.take, List.drop, List.reverse, List.reverseAux, List.cons_append, List.nil_append, Option.toList, Int.toNat, Int.reduceToNat, if_pos, if_neg, reduceIte, ↓reduceIte, Nat.reduceAdd, Nat.reduceEqDiff, Nat.reduceBEq, beq_self_eq_true, Bool.not_true, Bool.not_false, Bool.and_true, Bool.and_false, Bool.true_and, Bool.false_and, gI_sI, gI_sL, gI_sA, gI_sM, gL_sI, gL_sL, gL_sA, gL_sM, aI_sI, aI_sL, aI_sA, aI_sM, aL_sI, aL_sL, aL_sA, aL_sM, Btakes_0, Btakes_9, Btakes_13, Btakes_14, Btakes_19, Btakes_25, Btakes_30, Btakes_58, oi_0, oi_1, P_paramsOf, P_typeOfParam, P_widens]; try dsimp only
        exact hW 19 [(0, .ref 1000), (1, .int m), (2, .int fi), (3, .int n), (4, .int 0), (5, .int 0)] _ _ _ (by simp [rdl, rky]) (loop _ 0 0 rfl ⟨by decide, by lia⟩ (Or.inl rfl))
      · apply hB
        dsimp only [rgo, rfd, Btakes, Nat.beq, rwp, rst, lv_args, rlk, rs1, rs2, rdl, rky, rct, rcs, rcd, rno, rsw, Value.category, List.filter, List.take, List.drop, List.reverse, List.reverseAux, List.cons_append, List.nil_append, Option.toList, Int.toNat, Int.reduceToNat, if_pos, if_neg, reduceIte, ↓reduceIte, Nat.reduceAdd, Nat.reduceEqDiff, Nat.reduceBEq, beq_self_eq_true, Bool.not_true, Bool.not_false, Bool.and_true, Bool.and_false, Bool.true_and, Bool.false_and, gI_sI, gI_sL, gI_sA, gI_sM, gL_sI, gL_sL, gL_sA, gL_sM, aI_sI, aI_sL, aI_sA, aI_sM, aL_sI, aL_sL, aL_sA, aL_sM, Btakes_0, Btakes_9, Btakes_13, Btakes_14, Btakes_19, Btakes_25, Btakes_30, Btakes_58, oi_0, oi_1, P_paramsOf, P_typeOfParam, P_widens]; try dsimp only
        apply hB
        dsimp only [rgo, rfd, Btakes, Nat.beq, rwp, rst, lv_args, rlk, rs1, rs2, rdl, rky, rct, rcs, rcd, rno, rsw, Value.category, List.filter, List.take, List.drop, List.reverse, List.reverseAux, List.cons_append, List.nil_append, Option.toList, Int.toNat, Int.reduceToNat, if_pos, if_neg, reduceIte, ↓reduceIte, Nat.reduceAdd, Nat.reduceEqDiff, Nat.reduceBEq, beq_self_eq_true, Bool.not_true, Bool.not_false, Bool.and_true, Bool.and_false, Bool.true_and, Bool.false_and, gI_sI, gI_sL, gI_sA, gI_sM, gL_sI, gL_sL, gL_sA, gL_sM, aI_sI, aI_sL, aI_sA, aI_sM, aL_sI, aL_sL, aL_sA, aL_sM, Btakes_0, Btakes_9, Btakes_13, Btakes_14, Btakes_19, Btakes_25, Btakes_30, Btakes_58, oi_0, oi_1, P_paramsOf, P_typeOfParam, P_widens]; try dsimp only
        exact hW 19 [(0, .ref 1000), (1, .int m), (2, .int fi), (3, .int n), (4, .int 1), (5, .int 0)] _ _ _ (by simp [rdl, rky]) (loop _ 0 1 rfl ⟨by decide, by lia⟩ (Or.inr ⟨rfl, by lia⟩))
    next => exact hP.elim
theorem m_takes (l : Launch) : RMet l 2 101 P_takes Q_takes := by
  refine RMet.by Btakes [(84, P_paramsOf, Q_paramsOf), (83, P_typeOfParam, Q_typeOfParam), (73, P_widens, Q_widens)] rotakes okBtakes (ctc (m_paramsOf l) (by decide) (ctc (m_typeOfParam l) (by decide) (ctc (m_widens l) (by decide) ct0))) ?_ b_takes
  · intro As σ hP
    unfold P_takes at hP
    split at hP
    next => exact Nat.le_of_ble_eq_true rfl
    next => exact hP.elim
set_option maxRecDepth 100000 in
theorem e_takes (l : Launch) : RMetE l 2 101 P_takes Q_takes := by
  refine RMetE.by Btakes [(84, P_paramsOf, Q_paramsOf), (83, P_typeOfParam, Q_typeOfParam), (73, P_widens, Q_widens)] rfl rfl rotakes okBtakes (ctEc (e_paramsOf l) (by decide) (ctEc (e_typeOfParam l) (by decide) (ctEc (e_widens l) (by decide) ctE0))) ?_ b_takes
  · intro As σ hP
    unfold P_takes at hP
    split at hP
    next => exact Nat.le_of_ble_eq_true rfl
    next => exact hP.elim
