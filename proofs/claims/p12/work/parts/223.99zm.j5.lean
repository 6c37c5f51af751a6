def Pu_scope : UP1 := fun A1 σ => match A1 with
  | [] => True
  | _ => False
def Qu_scope : UQ1 := fun A1 σ w τ => match A1 with
  | [] => ∃ r : Int32, w = some (.int r) ∧ σ = τ
  | _ => False
set_option maxRecDepth 100000 in
set_option maxHeartbeats 4000000 in
theorem u_scope : UMet 41 Pu_scope Qu_scope := by
  refine UMet.by Bscope [] rfl uc0 ?_
  intro A1 σ hP K hB hW
  unfold Pu_scope at hP
  split at hP
  next =>
    have loop : ∀ (n : Nat) (f : Int32), K n 7 [(0, .ref 1000), (1, .int f)] [] σ := by
      intro n
      induction n using Nat.strongRecOn with
      | ind n loop =>
        intro f
        refine hB _ _ _ _ _ (fun m1 hm1 => ?_)
        dsimp only [ugo, uwp, ust, uct, rfd, Bscope, Nat.beq, lv_args, rlk, rs1, rs2, rdl, rky, rcd, rno, rsw, Value.category, List.filter, List.take, List.drop, List.reverse, List.reverseAux, List.cons_append, List.nil_append, Option.toList, Int.toNat, Int.reduceToNat, if_pos, if_neg, reduceIte, ↓reduceIte, Nat.reduceAdd, Nat.reduceEqDiff, Nat.reduceBEq, beq_self_eq_true, Bool.not_true, Bool.not_false, Bool.and_true, Bool.and_false, Bool.true_and, Bool.false_and, gI_sI, gI_sL, gI_sA, gI_sM, gL_sI, gL_sL, gL_sA, gL_sM, aI_sI, aI_sL, aI_sA, aI_sM, aL_sI, aL_sL, aL_sA, aL_sM, Bscope_0, Bscope_7, Bscope_16, Bscope_26, Bscope_37, Bscope_48, Bscope_54, Bscope_65, Bscope_90, Bscope_96, oi_1, oi_1000, oi_3, oi_8, oi_9, oi_m1]; try dsimp only
        intro p2
        refine ⟨fun h3 => ?_, fun h3 => ?_⟩
        · refine hB _ _ _ _ _ (fun m4 hm4 => ?_)
          dsimp only [ugo, uwp, ust, uct, rfd, Bscope, Nat.beq, lv_args, rlk, rs1, rs2, rdl, rky, rcd, rno, rsw, Value.category, List.filter, List.take, List.drop, List.reverse, List.reverseAux, List.cons_append, List.nil_append, Option.toList, Int.toNat, Int.reduceToNat, if_pos, if_neg, reduceIte, ↓reduceIte, Nat.reduceAdd, Nat.reduceEqDiff, Nat.reduceBEq, beq_self_eq_true, Bool.not_true, Bool.not_false, Bool.and_true, Bool.and_false, Bool.true_and, Bool.false_and, gI_sI, gI_sL, gI_sA, gI_sM, gL_sI, gL_sL, gL_sA, gL_sM, aI_sI, aI_sL, aI_sA, aI_sM, aL_sI, aL_sL, aL_sA, aL_sM, Bscope_0, Bscope_7, Bscope_16, Bscope_26, Bscope_37, Bscope_48, Bscope_54, Bscope_65, Bscope_90, Bscope_96, oi_1, oi_1000, oi_3, oi_8, oi_9, oi_m1]; try dsimp only
          intro p5
          refine ⟨fun h6 => ?_, fun h6 => ?_⟩
          · refine hB _ _ _ _ _ (fun m7 hm7 => ?_)
            dsimp only [ugo, uwp, ust, uct, rfd, Bscope, Nat.beq, lv_args, rlk, rs1, rs2, rdl, rky, rcd, rno, rsw, Value.category, List.filter, List.take, List.drop, List.reverse, List.reverseAux, List.cons_append, List.nil_append, Option.toList, Int.toNat, Int.reduceToNat, if_pos, if_neg, reduceIte, ↓reduceIte, Nat.reduceAdd, Nat.reduceEqDiff, Nat.reduceBEq, beq_self_eq_true, Bool.not_true, Bool.not_false, Bool.and_true, Bool.and_false, Bool.true_and, Bool.false_and, gI_sI, gI_sL, gI_sA, gI_sM, gL_sI, gL_sL, gL_sA, gL_sM, aI_sI, aI_sL, aI_sA, aI_sM, aL_sI, aL_sL, aL_sA, aL_sM, Bscope_0, Bscope_7, Bscope_16, Bscope_26, Bscope_37, Bscope_48, Bscope_54, Bscope_65, Bscope_90, Bscope_96, oi_1, oi_1000, oi_3, oi_8, oi_9, oi_m1]; try dsimp only
            intro p8
            refine hB _ _ _ _ _ (fun m9 hm9 => ?_)
            dsimp only [ugo, uwp, ust, uct, rfd, Bscope, Nat.beq, lv_args, rlk, rs1, rs2, rdl, rky, rcd, rno, rsw, Value.category, List.filter, List.take, List.drop, List.reverse, List.reverseAux, List.cons_append, List.nil_append, Option.toList, Int.toNat, Int.reduceToNat, if_pos, if_neg, reduceIte, ↓reduceIte, Nat.reduceAdd, Nat.reduceEqDiff, Nat.reduceBEq, beq_self_eq_true, Bool.not_true, Bool.not_false, Bool.and_true, Bool.and_false, Bool.true_and, Bool.false_and, gI_sI, gI_sL, gI_sA, gI_sM, gL_sI, gL_sL, gL_sA, gL_sM, aI_sI, aI_sL, aI_sA, aI_sM, aL_sI, aL_sL, aL_sA, aL_sM, Bscope_0, Bscope_7, Bscope_16, Bscope_26, Bscope_37, Bscope_48, Bscope_54, Bscope_65, Bscope_90, Bscope_96, oi_1, oi_1000, oi_3, oi_8, oi_9, oi_m1]; try dsimp only
            unfold Qu_scope
            try dsimp only
            exact ⟨_, rfl, rfl⟩
          · refine hB _ _ _ _ _ (fun m10 hm10 => ?_)
            dsimp only [ugo, uwp, ust, uct, rfd, Bscope, Nat.beq, lv_args, rlk, rs1, rs2, rdl, rky, rcd, rno, rsw, Value.category, List.filter, List.take, List.drop, List.reverse, List.reverseAux, List.cons_append, List.nil_append, Option.toList, Int.toNat, Int.reduceToNat, if_pos, if_neg, reduceIte, ↓reduceIte, Nat.reduceAdd, Nat.reduceEqDiff, Nat.reduceBEq, beq_self_eq_true, Bool.not_true, Bool.not_false, Bool.and_true, Bool.and_false, Bool.true_and, Bool.false_and, gI_sI, gI_sL, gI_sA, gI_sM, gL_sI, gL_sL, gL_sA, gL_sM, aI_sI, aI_sL, aI_sA, aI_sM, aL_sI, aL_sL, aL_sA, aL_sM, Bscope_0, Bscope_7, Bscope_16, Bscope_26, Bscope_37, Bscope_48, Bscope_54, Bscope_65, Bscope_90, Bscope_96, oi_1, oi_1000, oi_3, oi_8, oi_9, oi_m1]; try dsimp only
            intro p11
            intro p12
            refine hB _ _ _ _ _ (fun m13 hm13 => ?_)
            dsimp only [ugo, uwp, ust, uct, rfd, Bscope, Nat.beq, lv_args, rlk, rs1, rs2, rdl, rky, rcd, rno, rsw, Value.category, List.filter, List.take, List.drop, List.reverse, List.reverseAux, List.cons_append, List.nil_append, Option.toList, Int.toNat, Int.reduceToNat, if_pos, if_neg, reduceIte, ↓reduceIte, Nat.reduceAdd, Nat.reduceEqDiff, Nat.reduceBEq, beq_self_eq_true, Bool.not_true, Bool.not_false, Bool.and_true, Bool.and_false, Bool.true_and, Bool.false_and, gI_sI, gI_sL, gI_sA, gI_sM, gL_sI, gL_sL, gL_sA, gL_sM, aI_sI, aI_sL, aI_sA, aI_sM, aL_sI, aL_sL, aL_sA, aL_sM, Bscope_0, Bscope_7, Bscope_16, Bscope_26, Bscope_37, Bscope_48, Bscope_54, Bscope_65, Bscope_90, Bscope_96, oi_1, oi_1000, oi_3, oi_8, oi_9, oi_m1]; try dsimp only
            unfold Qu_scope
            try dsimp only
            exact ⟨_, rfl, rfl⟩
        · refine hB _ _ _ _ _ (fun m14 hm14 => ?_)
          dsimp only [ugo, uwp, ust, uct, rfd, Bscope, Nat.beq, lv_args, rlk, rs1, rs2, rdl, rky, rcd, rno, rsw, Value.category, List.filter, List.take, List.drop, List.reverse, List.reverseAux, List.cons_append, List.nil_append, Option.toList, Int.toNat, Int.reduceToNat, if_pos, if_neg, reduceIte, ↓reduceIte, Nat.reduceAdd, Nat.reduceEqDiff, Nat.reduceBEq, beq_self_eq_true, Bool.not_true, Bool.not_false, Bool.and_true, Bool.and_false, Bool.true_and, Bool.false_and, gI_sI, gI_sL, gI_sA, gI_sM, gL_sI, gL_sL, gL_sA, gL_sM, aI_sI, aI_sL, aI_sA, aI_sM, aL_sI, aL_sL, aL_sA, aL_sM, Bscope_0, Bscope_7, Bscope_16, Bscope_26, Bscope_37, Bscope_48, Bscope_54, Bscope_65, Bscope_90, Bscope_96, oi_1, oi_1000, oi_3, oi_8, oi_9, oi_m1]; try dsimp only
          intro p15
          refine ⟨fun h16 => ?_, fun h16 => ?_⟩
          · refine hB _ _ _ _ _ (fun m17 hm17 => ?_)
            dsimp only [ugo, uwp, ust, uct, rfd, Bscope, Nat.beq, lv_args, rlk, rs1, rs2, rdl, rky, rcd, rno, rsw, Value.category, List.filter, List.take, List.drop, List.reverse, List.reverseAux, List.cons_append, List.nil_append, Option.toList, Int.toNat, Int.reduceToNat, if_pos, if_neg, reduceIte, ↓reduceIte, Nat.reduceAdd, Nat.reduceEqDiff, Nat.reduceBEq, beq_self_eq_true, Bool.not_true, Bool.not_false, Bool.and_true, Bool.and_false, Bool.true_and, Bool.false_and, gI_sI, gI_sL, gI_sA, gI_sM, gL_sI, gL_sL, gL_sA, gL_sM, aI_sI, aI_sL, aI_sA, aI_sM, aL_sI, aL_sL, aL_sA, aL_sM, Bscope_0, Bscope_7, Bscope_16, Bscope_26, Bscope_37, Bscope_48, Bscope_54, Bscope_65, Bscope_90, Bscope_96, oi_1, oi_1000, oi_3, oi_8, oi_9, oi_m1]; try dsimp only
            intro p18
            refine ⟨fun h19 => ?_, fun h19 => ?_⟩
            · refine hB _ _ _ _ _ (fun m20 hm20 => ?_)
              dsimp only [ugo, uwp, ust, uct, rfd, Bscope, Nat.beq, lv_args, rlk, rs1, rs2, rdl, rky, rcd, rno, rsw, Value.category, List.filter, List.take, List.drop, List.reverse, List.reverseAux, List.cons_append, List.nil_append, Option.toList, Int.toNat, Int.reduceToNat, if_pos, if_neg, reduceIte, ↓reduceIte, Nat.reduceAdd, Nat.reduceEqDiff, Nat.reduceBEq, beq_self_eq_true, Bool.not_true, Bool.not_false, Bool.and_true, Bool.and_false, Bool.true_and, Bool.false_and, gI_sI, gI_sL, gI_sA, gI_sM, gL_sI, gL_sL, gL_sA, gL_sM, aI_sI, aI_sL, aI_sA, aI_sM, aL_sI, aL_sL, aL_sA, aL_sM, Bscope_0, Bscope_7, Bscope_16, Bscope_26, Bscope_37, Bscope_48, Bscope_54, Bscope_65, Bscope_90, Bscope_96, oi_1, oi_1000, oi_3, oi_8, oi_9, oi_m1]; try dsimp only
              intro p21
              refine hB _ _ _ _ _ (fun m22 hm22 => ?_)
              dsimp only [ugo, uwp, ust, uct, rfd, Bscope, Nat.beq, lv_args, rlk, rs1, rs2, rdl, rky, rcd, rno, rsw, Value.category, List.filter, List.take, List.drop, List.reverse, List.reverseAux, List.cons_append, List.nil_append, Option.toList, Int.toNat, Int.reduceToNat, if_pos, if_neg, reduceIte, ↓reduceIte, Nat.reduceAdd, Nat.reduceEqDiff, Nat.reduceBEq, beq_self_eq_true, Bool.not_true, Bool.not_false, Bool.and_true, Bool.and_false, Bool.true_and, Bool.false_and, gI_sI, gI_sL, gI_sA, gI_sM, gL_sI, gL_sL, gL_sA, gL_sM, aI_sI, aI_sL, aI_sA, aI_sM, aL_sI, aL_sL, aL_sA, aL_sM, Bscope_0, Bscope_7, Bscope_16, Bscope_26, Bscope_37, Bscope_48, Bscope_54, Bscope_65, Bscope_90, Bscope_96, oi_1, oi_1000, oi_3, oi_8, oi_9, oi_m1]; try dsimp only
              unfold Qu_scope
              try dsimp only
              exact ⟨_, rfl, rfl⟩
            · refine hB _ _ _ _ _ (fun m23 hm23 => ?_)
              dsimp only [ugo, uwp, ust, uct, rfd, Bscope, Nat.beq, lv_args, rlk, rs1, rs2, rdl, rky, rcd, rno, rsw, Value.category, List.filter, List.take, List.drop, List.reverse, List.reverseAux, List.cons_append, List.nil_append, Option.toList, Int.toNat, Int.reduceToNat, if_pos, if_neg, reduceIte, ↓reduceIte, Nat.reduceAdd, Nat.reduceEqDiff, Nat.reduceBEq, beq_self_eq_true, Bool.not_true, Bool.not_false, Bool.and_true, Bool.and_false, Bool.true_and, Bool.false_and, gI_sI, gI_sL, gI_sA, gI_sM, gL_sI, gL_sL, gL_sA, gL_sM, aI_sI, aI_sL, aI_sA, aI_sM, aL_sI, aL_sL, aL_sA, aL_sM, Bscope_0, Bscope_7, Bscope_16, Bscope_26, Bscope_37, Bscope_48, Bscope_54, Bscope_65, Bscope_90, Bscope_96, oi_1, oi_1000, oi_3, oi_8, oi_9, oi_m1]; try dsimp only
              intro p24
              intro p25
              refine hB _ _ _ _ _ (fun m26 hm26 => ?_)
              dsimp only [ugo, uwp, ust, uct, rfd, Bscope, Nat.beq, lv_args, rlk, rs1, rs2, rdl, rky, rcd, rno, rsw, Value.category, List.filter, List.take, List.drop, List.reverse, List.reverseAux, List.cons_append, List.nil_append, Option.toList, Int.toNat, Int.reduceToNat, if_pos, if_neg, reduceIte, ↓reduceIte, Nat.reduceAdd, Nat.reduceEqDiff, Nat.reduceBEq, beq_self_eq_true, Bool.not_true, Bool.not_false, Bool.and_true, Bool.and_false, Bool.true_and, Bool.false_and, gI_sI, gI_sL, gI_sA, gI_sM, gL_sI, gL_sL, gL_sA, gL_sM, aI_sI, aI_sL, aI_sA, aI_sM, aL_sI, aL_sL, aL_sA, aL_sM, Bscope_0, Bscope_7, Bscope_16, Bscope_26, Bscope_37, Bscope_48, Bscope_54, Bscope_65, Bscope_90, Bscope_96, oi_1, oi_1000, oi_3, oi_8, oi_9, oi_m1]; try dsimp only
              unfold Qu_scope
              try dsimp only
              exact ⟨_, rfl, rfl⟩
          · refine hB _ _ _ _ _ (fun m27 hm27 => ?_)
            dsimp only [ugo, uwp, ust, uct, rfd, Bscope, Nat.beq, lv_args, rlk, rs1, rs2, rdl, rky, rcd, rno, rsw, Value.category, List.filter, List.take, List.drop, List.reverse, List.reverseAux, List.cons_append, List.nil_append, Option.toList, Int.toNat, Int.reduceToNat, if_pos, if_neg, reduceIte, ↓reduceIte, Nat.reduceAdd, Nat.reduceEqDiff, Nat.reduceBEq, beq_self_eq_true, Bool.not_true, Bool.not_false, Bool.and_true, Bool.and_false, Bool.true_and, Bool.false_and, gI_sI, gI_sL, gI_sA, gI_sM, gL_sI, gL_sL, gL_sA, gL_sM, aI_sI, aI_sL, aI_sA, aI_sM, aL_sI, aL_sL, aL_sA, aL_sM, Bscope_0, Bscope_7, Bscope_16, Bscope_26, Bscope_37, Bscope_48, Bscope_54, Bscope_65, Bscope_90, Bscope_96, oi_1, oi_1000, oi_3, oi_8, oi_9, oi_m1]; try dsimp only
            intro p28
            refine ⟨fun h29 => ?_, fun h29 => ?_⟩
            · refine hB _ _ _ _ _ (fun m30 hm30 => ?_)
              dsimp only [ugo, uwp, ust, uct, rfd, Bscope, Nat.beq, lv_args, rlk, rs1, rs2, rdl, rky, rcd, rno, rsw, Value.category, List.filter, List.take, List.drop, List.reverse, List.reverseAux, List.cons_append, List.nil_append, Option.toList, Int.toNat, Int.reduceToNat, if_pos, if_neg, reduceIte, ↓reduceIte, Nat.reduceAdd, Nat.reduceEqDiff, Nat.reduceBEq, beq_self_eq_true, Bool.not_true, Bool.not_false, Bool.and_true, Bool.and_false, Bool.true_and, Bool.false_and, gI_sI, gI_sL, gI_sA, gI_sM, gL_sI, gL_sL, gL_sA, gL_sM, aI_sI, aI_sL, aI_sA, aI_sM, aL_sI, aL_sL, aL_sA, aL_sM, Bscope_0, Bscope_7, Bscope_16, Bscope_26, Bscope_37, Bscope_48, Bscope_54, Bscope_65, Bscope_90, Bscope_96, oi_1, oi_1000, oi_3, oi_8, oi_9, oi_m1]; try dsimp only
              intro p31
              refine ⟨fun h32 => ?_, fun h32 => ?_⟩
              · refine hB _ _ _ _ _ (fun m33 hm33 => ?_)
                dsimp only [ugo, uwp, ust, uct, rfd, Bscope, Nat.beq, lv_args, rlk, rs1, rs2, rdl, rky, rcd, rno, rsw, Value.category, List.filter, List.take, List.drop, List.reverse, List.reverseAux, List.cons_append, List.nil_append, Option.toList, Int.toNat, Int.reduceToNat, if_pos, if_neg, reduceIte, ↓reduceIte, Nat.reduceAdd, Nat.reduceEqDiff, Nat.reduceBEq, beq_self_eq_true, Bool.not_true, Bool.not_false, Bool.and_true, Bool.and_false, Bool.true_and, Bool.false_and, gI_sI, gI_sL, gI_sA, gI_sM, gL_sI, gL_sL, gL_sA, gL_sM, aI_sI, aI_sL, aI_sA, aI_sM, aL_sI, aL_sL, aL_sA, aL_sM, Bscope_0, Bscope_7, Bscope_16, Bscope_26, Bscope_37, Bscope_48, Bscope_54, Bscope_65, Bscope_90, Bscope_96, oi_1, oi_1000, oi_3, oi_8, oi_9, oi_m1]; try dsimp only
                intro p34
                refine hB _ _ _ _ _ (fun m35 hm35 => ?_)
                dsimp only [ugo, uwp, ust, uct, rfd, Bscope, Nat.beq, lv_args, rlk, rs1, rs2, rdl, rky, rcd, rno, rsw, Value.category, List.filter, List.take, List.drop, List.reverse, List.reverseAux, List.cons_append, List.nil_append, Option.toList, Int.toNat, Int.reduceToNat, if_pos, if_neg, reduceIte, ↓reduceIte, Nat.reduceAdd, Nat.reduceEqDiff, Nat.reduceBEq, beq_self_eq_true, Bool.not_true, Bool.not_false, Bool.and_true, Bool.and_false, Bool.true_and, Bool.false_and, gI_sI, gI_sL, gI_sA, gI_sM, gL_sI, gL_sL, gL_sA, gL_sM, aI_sI, aI_sL, aI_sA, aI_sM, aL_sI, aL_sL, aL_sA, aL_sM, Bscope_0, Bscope_7, Bscope_16, Bscope_26, Bscope_37, Bscope_48, Bscope_54, Bscope_65, Bscope_90, Bscope_96, oi_1, oi_1000, oi_3, oi_8, oi_9, oi_m1]; try dsimp only
                unfold Qu_scope
                try dsimp only
                exact ⟨_, rfl, rfl⟩
              · refine hB _ _ _ _ _ (fun m36 hm36 => ?_)
                dsimp only [ugo, uwp, ust, uct, rfd, Bscope, Nat.beq, lv_args, rlk, rs1, rs2, rdl, rky, rcd, rno, rsw, Value.category, List.filter, List.take, List.drop, List.reverse, List.reverseAux, List.cons_append, List.nil_append, Option.toList, Int.toNat, Int.reduceToNat, if_pos, if_neg, reduceIte, ↓reduceIte, Nat.reduceAdd, Nat.reduceEqDiff, Nat.reduceBEq, beq_self_eq_true, Bool.not_true, Bool.not_false, Bool.and_true, Bool.and_false, Bool.true_and, Bool.false_and, gI_sI, gI_sL, gI_sA, gI_sM, gL_sI, gL_sL, gL_sA, gL_sM, aI_sI, aI_sL, aI_sA, aI_sM, aL_sI, aL_sL, aL_sA, aL_sM, Bscope_0, Bscope_7, Bscope_16, Bscope_26, Bscope_37, Bscope_48, Bscope_54, Bscope_65, Bscope_90, Bscope_96, oi_1, oi_1000, oi_3, oi_8, oi_9, oi_m1]; try dsimp only
                intro p37
                intro p38
                refine hB _ _ _ _ _ (fun m39 hm39 => ?_)
                dsimp only [ugo, uwp, ust, uct, rfd, Bscope, Nat.beq, lv_args, rlk, rs1, rs2, rdl, rky, rcd, rno, rsw, Value.category, List.filter, List.take, List.drop, List.reverse, List.reverseAux, List.cons_append, List.nil_append, Option.toList, Int.toNat, Int.reduceToNat, if_pos, if_neg, reduceIte, ↓reduceIte, Nat.reduceAdd, Nat.reduceEqDiff, Nat.reduceBEq, beq_self_eq_true, Bool.not_true, Bool.not_false, Bool.and_true, Bool.and_false, Bool.true_and, Bool.false_and, gI_sI, gI_sL, gI_sA, gI_sM, gL_sI, gL_sL, gL_sA, gL_sM, aI_sI, aI_sL, aI_sA, aI_sM, aL_sI, aL_sL, aL_sA, aL_sM, Bscope_0, Bscope_7, Bscope_16, Bscope_26, Bscope_37, Bscope_48, Bscope_54, Bscope_65, Bscope_90, Bscope_96, oi_1, oi_1000, oi_3, oi_8, oi_9, oi_m1]; try dsimp only
                unfold Qu_scope
                try dsimp only
                exact ⟨_, rfl, rfl⟩
            · refine hB _ _ _ _ _ (fun m40 hm40 => ?_)
              dsimp only [ugo, uwp, ust, uct, rfd, Bscope, Nat.beq, lv_args, rlk, rs1, rs2, rdl, rky, rcd, rno, rsw, Value.category, List.filter, List.take, List.drop, List.reverse, List.reverseAux, List.cons_append, List.nil_append, Option.toList, Int.toNat, Int.reduceToNat, if_pos, if_neg, reduceIte, ↓reduceIte, Nat.reduceAdd, Nat.reduceEqDiff, Nat.reduceBEq, beq_self_eq_true, Bool.not_true, Bool.not_false, Bool.and_true, Bool.and_false, Bool.true_and, Bool.false_and, gI_sI, gI_sL, gI_sA, gI_sM, gL_sI, gL_sL, gL_sA, gL_sM, aI_sI, aI_sL, aI_sA, aI_sM, aL_sI, aL_sL, aL_sA, aL_sM, Bscope_0, Bscope_7, Bscope_16, Bscope_26, Bscope_37, Bscope_48, Bscope_54, Bscope_65, Bscope_90, Bscope_96, oi_1, oi_1000, oi_3, oi_8, oi_9, oi_m1]; try dsimp only
              intro p41
              refine ⟨fun h42 => ?_, fun h42 => ?_⟩
              · refine hB _ _ _ _ _ (fun m43 hm43 => ?_)
                dsimp only [ugo, uwp, ust, uct, rfd, Bscope, Nat.beq, lv_args, rlk, rs1, rs2, rdl, rky, rcd, rno, rsw, Value.category, List.filter, List.take, List.drop, List.reverse, List.reverseAux, List.cons_append, List.nil_append, Option.toList, Int.toNat, Int.reduceToNat, if_pos, if_neg, reduceIte, ↓reduceIte, Nat.reduceAdd, Nat.reduceEqDiff, Nat.reduceBEq, beq_self_eq_true, Bool.not_true, Bool.not_false, Bool.and_true, Bool.and_false, Bool.true_and, Bool.false_and, gI_sI, gI_sL, gI_sA, gI_sM, gL_sI, gL_sL, gL_sA, gL_sM, aI_sI, aI_sL, aI_sA, aI_sM, aL_sI, aL_sL, aL_sA, aL_sM, Bscope_0, Bscope_7, Bscope_16, Bscope_26, Bscope_37, Bscope_48, Bscope_54, Bscope_65, Bscope_90, Bscope_96, oi_1, oi_1000, oi_3, oi_8, oi_9, oi_m1]; try dsimp only
                intro p44
                refine ⟨fun h45 => ?_, fun h45 => ?_⟩
                · refine hB _ _ _ _ _ (fun m46 hm46 => ?_)
                  dsimp only [ugo, uwp, ust, uct, rfd, Bscope, Nat.beq, lv_args, rlk, rs1, rs2, rdl, rky, rcd, rno, rsw, Value.category, List.filter, List.take, List.drop, List.reverse, List.reverseAux, List.cons_append, List.nil_append, Option.toList, Int.toNat, Int.reduceToNat, if_pos, if_neg, reduceIte, ↓reduceIte, Nat.reduceAdd, Nat.reduceEqDiff, Nat.reduceBEq, beq_self_eq_true, Bool.not_true, Bool.not_false, Bool.and_true, Bool.and_false, Bool.true_and, Bool.false_and, gI_sI, gI_sL, gI_sA, gI_sM, gL_sI, gL_sL, gL_sA, gL_sM, aI_sI, aI_sL, aI_sA, aI_sM, aL_sI, aL_sL, aL_sA, aL_sM, Bscope_0, Bscope_7, Bscope_16, Bscope_26, Bscope_37, Bscope_48, Bscope_54, Bscope_65, Bscope_90, Bscope_96, oi_1, oi_1000, oi_3, oi_8, oi_9, oi_m1]; try dsimp only
                  intro p47
                  refine hB _ _ _ _ _ (fun m48 hm48 => ?_)
                  dsimp only [ugo, uwp, ust, uct, rfd, Bscope, Nat.beq, lv_args, rlk, rs1, rs2, rdl, rky, rcd, rno, rsw, Value.category, List.filter, List.take, List.drop, List.reverse, List.reverseAux, List.cons_append, List.nil_append, Option.toList, Int.toNat, Int.reduceToNat, if_pos, if_neg, reduceIte, ↓reduceIte, Nat.reduceAdd, Nat.reduceEqDiff, Nat.reduceBEq, beq_self_eq_true, Bool.not_true, Bool.not_false, Bool.and_true, Bool.and_false, Bool.true_and, Bool.false_and, gI_sI, gI_sL, gI_sA, gI_sM, gL_sI, gL_sL, gL_sA, gL_sM, aI_sI, aI_sL, aI_sA, aI_sM, aL_sI, aL_sL, aL_sA, aL_sM, Bscope_0, Bscope_7, Bscope_16, Bscope_26, Bscope_37, Bscope_48, Bscope_54, Bscope_65, Bscope_90, Bscope_96, oi_1, oi_1000, oi_3, oi_8, oi_9, oi_m1]; try dsimp only
                  unfold Qu_scope
                  try dsimp only
                  exact ⟨_, rfl, rfl⟩
                · refine hB _ _ _ _ _ (fun m49 hm49 => ?_)
                  dsimp only [ugo, uwp, ust, uct, rfd, Bscope, Nat.beq, lv_args, rlk, rs1, rs2, rdl, rky, rcd, rno, rsw, Value.category, List.filter, List.take, List.drop, List.reverse, List.reverseAux, List.cons_append, List.nil_append, Option.toList, Int.toNat, Int.reduceToNat, if_pos, if_neg, reduceIte, ↓reduceIte, Nat.reduceAdd, Nat.reduceEqDiff, Nat.reduceBEq, beq_self_eq_true, Bool.not_true, Bool.not_false, Bool.and_true, Bool.and_false, Bool.true_and, Bool.false_and, gI_sI, gI_sL, gI_sA, gI_sM, gL_sI, gL_sL, gL_sA, gL_sM, aI_sI, aI_sL, aI_sA, aI_sM, aL_sI, aL_sL, aL_sA, aL_sM, Bscope_0, Bscope_7, Bscope_16, Bscope_26, Bscope_37, Bscope_48, Bscope_54, Bscope_65, Bscope_90, Bscope_96, oi_1, oi_1000, oi_3, oi_8, oi_9, oi_m1]; try dsimp only
                  intro p50
                  intro p51
                  refine hB _ _ _ _ _ (fun m52 hm52 => ?_)
                  dsimp only [ugo, uwp, ust, uct, rfd, Bscope, Nat.beq, lv_args, rlk, rs1, rs2, rdl, rky, rcd, rno, rsw, Value.category, List.filter, List.take, List.drop, List.reverse, List.reverseAux, List.cons_append, List.nil_append, Option.toList, Int.toNat, Int.reduceToNat, if_pos, if_neg, reduceIte, ↓reduceIte, Nat.reduceAdd, Nat.reduceEqDiff, Nat.reduceBEq, beq_self_eq_true, Bool.not_true, Bool.not_false, Bool.and_true, Bool.and_false, Bool.true_and, Bool.false_and, gI_sI, gI_sL, gI_sA, gI_sM, gL_sI, gL_sL, gL_sA, gL_sM, aI_sI, aI_sL, aI_sA, aI_sM, aL_sI, aL_sL, aL_sA, aL_sM, Bscope_0, Bscope_7, Bscope_16, Bscope_26, Bscope_37, Bscope_48, Bscope_54, Bscope_65, Bscope_90, Bscope_96, oi_1, oi_1000, oi_3, oi_8, oi_9, oi_m1]; try dsimp only
                  unfold Qu_scope
                  try dsimp only
                  exact ⟨_, rfl, rfl⟩
              · refine hB _ _ _ _ _ (fun m53 hm53 => ?_)
                dsimp only [ugo, uwp, ust, uct, rfd, Bscope, Nat.beq, lv_args, rlk, rs1, rs2, rdl, rky, rcd, rno, rsw, Value.category, List.filter, List.take, List.drop, List.reverse, List.reverseAux, List.cons_append, List.nil_append, Option.toList, Int.toNat, Int.reduceToNat, if_pos, if_neg, reduceIte, ↓reduceIte, Nat.reduceAdd, Nat.reduceEqDiff, Nat.reduceBEq, beq_self_eq_true, Bool.not_true, Bool.not_false, Bool.and_true, Bool.and_false, Bool.true_and, Bool.false_and, gI_sI, gI_sL, gI_sA, gI_sM, gL_sI, gL_sL, gL_sA, gL_sM, aI_sI, aI_sL, aI_sA, aI_sM, aL_sI, aL_sL, aL_sA, aL_sM, Bscope_0, Bscope_7, Bscope_16, Bscope_26, Bscope_37, Bscope_48, Bscope_54, Bscope_65, Bscope_90, Bscope_96, oi_1, oi_1000, oi_3, oi_8, oi_9, oi_m1]; try dsimp only
                exact hW _ 7 [(0, .ref 1000), (1, .int (f + -1))] _ _ _ (by simp [rdl, rky]) (loop _ (by omega) (f + -1))
    intro n0
    refine hB _ _ _ _ _ (fun m1 hm1 => ?_)
    dsimp only [ugo, uwp, ust, uct, rfd, Bscope, Nat.beq, lv_args, rlk, rs1, rs2, rdl, rky, rcd, rno, rsw, Value.category, List.filter, List.take, List.drop, List.reverse, List.reverseAux, List.cons_append, List.nil_append, Option.toList, Int.toNat, Int.reduceToNat, if_pos, if_neg, reduceIte, ↓reduceIte, Nat.reduceAdd, Nat.reduceEqDiff, Nat.reduceBEq, beq_self_eq_true, Bool.not_true, Bool.not_false, Bool.and_true, Bool.and_false, Bool.true_and, Bool.false_and, gI_sI, gI_sL, gI_sA, gI_sM, gL_sI, gL_sL, gL_sA, gL_sM, aI_sI, aI_sL, aI_sA, aI_sM, aL_sI, aL_sL, aL_sA, aL_sM, Bscope_0, Bscope_7, Bscope_16, Bscope_26, Bscope_37, Bscope_48, Bscope_54, Bscope_65, Bscope_90, Bscope_96, oi_1, oi_1000, oi_3, oi_8, oi_9, oi_m1]; try dsimp only
    exact hW _ 7 [(0, .ref 1000), (1, .int (gI σ 62 - 1))] _ _ _ (by simp [rdl, rky]) (loop _ _)
  next => exact hP.elim
def Pu_leave : UP1 := fun A1 σ => match A1 with
  | [.int k, .int token] => True
  | _ => False
def Qu_leave : UQ1 := fun A1 σ w τ => match A1 with
  | [.int k, .int token] => w = none ∧ ∃ f, τ = sA σ 48 f
  | _ => False
set_option maxRecDepth 100000 in
set_option maxHeartbeats 4000000 in
theorem u_leave : UMet 42 Pu_leave Qu_leave := by
  refine UMet.by Bleave [] rfl uc0 ?_
  intro A1 σ hP K hB hW
  unfold Pu_leave at hP
  split at hP
  next k token =>
    have loop : ∀ (n : Nat) (v : Int32) (f : Nat → Int32), K n 2 [(0, .ref 1000), (1, .int k), (2, .int token), (3, .int v)] [] (sA σ 48 f) := by
      intro n
      induction n using Nat.strongRecOn with
      | ind n loop =>
        intro v f
        refine hB _ _ _ _ _ (fun m1 hm1 => ?_)
        dsimp only [ugo, uwp, ust, uct, rfd, Bleave, Nat.beq, lv_args, rlk, rs1, rs2, rdl, rky, rcd, rno, rsw, Value.category, List.filter, List.take, List.drop, List.reverse, List.reverseAux, List.cons_append, List.nil_append, Option.toList, Int.toNat, Int.reduceToNat, if_pos, if_neg, reduceIte, ↓reduceIte, Nat.reduceAdd, Nat.reduceEqDiff, Nat.reduceBEq, beq_self_eq_true, Bool.not_true, Bool.not_false, Bool.and_true, Bool.and_false, Bool.true_and, Bool.false_and, gI_sI, gI_sL, gI_sA, gI_sM, gL_sI, gL_sL, gL_sA, gL_sM, aI_sI, aI_sL, aI_sA, aI_sM, aL_sI, aL_sL, aL_sA, aL_sM, Bleave_0, Bleave_2, Bleave_10, Bleave_20, Bleave_29, Bleave_36, Bleave_42, oi_0, oi_1]; try dsimp only
        refine ⟨fun h2 => ?_, fun h2 => ?_⟩
        · refine hB _ _ _ _ _ (fun m3 hm3 => ?_)
          dsimp only [ugo, uwp, ust, uct, rfd, Bleave, Nat.beq, lv_args, rlk, rs1, rs2, rdl, rky, rcd, rno, rsw, Value.category, List.filter, List.take, List.drop, List.reverse, List.reverseAux, List.cons_append, List.nil_append, Option.toList, Int.toNat, Int.reduceToNat, if_pos, if_neg, reduceIte, ↓reduceIte, Nat.reduceAdd, Nat.reduceEqDiff, Nat.reduceBEq, beq_self_eq_true, Bool.not_true, Bool.not_false, Bool.and_true, Bool.and_false, Bool.true_and, Bool.false_and, gI_sI, gI_sL, gI_sA, gI_sM, gL_sI, gL_sL, gL_sA, gL_sM, aI_sI, aI_sL, aI_sA, aI_sM, aL_sI, aL_sL, aL_sA, aL_sM, Bleave_0, Bleave_2, Bleave_10, Bleave_20, Bleave_29, Bleave_36, Bleave_42, oi_0, oi_1]; try dsimp only
          unfold Qu_leave
          try dsimp only
          exact ⟨rfl, _, rfl⟩
        · refine hB _ _ _ _ _ (fun m4 hm4 => ?_)
          dsimp only [ugo, uwp, ust, uct, rfd, Bleave, Nat.beq, lv_args, rlk, rs1, rs2, rdl, rky, rcd, rno, rsw, Value.category, List.filter, List.take, List.drop, List.reverse, List.reverseAux, List.cons_append, List.nil_append, Option.toList, Int.toNat, Int.reduceToNat, if_pos, if_neg, reduceIte, ↓reduceIte, Nat.reduceAdd, Nat.reduceEqDiff, Nat.reduceBEq, beq_self_eq_true, Bool.not_true, Bool.not_false, Bool.and_true, Bool.and_false, Bool.true_and, Bool.false_and, gI_sI, gI_sL, gI_sA, gI_sM, gL_sI, gL_sL, gL_sA, gL_sM, aI_sI, aI_sL, aI_sA, aI_sM, aL_sI, aL_sL, aL_sA, aL_sM, Bleave_0, Bleave_2, Bleave_10, Bleave_20, Bleave_29, Bleave_36, Bleave_42, oi_0, oi_1]; try dsimp only
          intro p5
          refine ⟨fun h6 => ?_, fun h6 => ?_⟩
          · refine hB _ _ _ _ _ (fun m7 hm7 => ?_)
            dsimp only [ugo, uwp, ust, uct, rfd, Bleave, Nat.beq, lv_args, rlk, rs1, rs2, rdl, rky, rcd, rno, rsw, Value.category, List.filter, List.take, List.drop, List.reverse, List.reverseAux, List.cons_append, List.nil_append, Option.toList, Int.toNat, Int.reduceToNat, if_pos, if_neg, reduceIte, ↓reduceIte, Nat.reduceAdd, Nat.reduceEqDiff, Nat.reduceBEq, beq_self_eq_true, Bool.not_true, Bool.not_false, Bool.and_true, Bool.and_false, Bool.true_and, Bool.false_and, gI_sI, gI_sL, gI_sA, gI_sM, gL_sI, gL_sL, gL_sA, gL_sM, aI_sI, aI_sL, aI_sA, aI_sM, aL_sI, aL_sL, aL_sA, aL_sM, Bleave_0, Bleave_2, Bleave_10, Bleave_20, Bleave_29, Bleave_36, Bleave_42, oi_0, oi_1]; try dsimp only
            exact hW _ 2 [(0, .ref 1000), (1, .int k), (2, .int token), (3, .int (v + 1))] _ _ _ (by simp [rdl, rky]) (loop _ (by omega) (v + 1) f)
          · refine hB _ _ _ _ _ (fun m8 hm8 => ?_)
            dsimp only [ugo, uwp, ust, uct, rfd, Bleave, Nat.beq, lv_args, rlk, rs1, rs2, rdl, rky, rcd, rno, rsw, Value.category, List.filter, List.take, List.drop, List.reverse, List.reverseAux, List.cons_append, List.nil_append, Option.toList, Int.toNat, Int.reduceToNat, if_pos, if_neg, reduceIte, ↓reduceIte, Nat.reduceAdd, Nat.reduceEqDiff, Nat.reduceBEq, beq_self_eq_true, Bool.not_true, Bool.not_false, Bool.and_true, Bool.and_false, Bool.true_and, Bool.false_and, gI_sI, gI_sL, gI_sA, gI_sM, gL_sI, gL_sL, gL_sA, gL_sM, aI_sI, aI_sL, aI_sA, aI_sM, aL_sI, aL_sL, aL_sA, aL_sM, Bleave_0, Bleave_2, Bleave_10, Bleave_20, Bleave_29, Bleave_36, Bleave_42, oi_0, oi_1]; try dsimp only
            intro p9
            refine ⟨fun h10 => ?_, fun h10 => ?_⟩
            · refine hB _ _ _ _ _ (fun m11 hm11 => ?_)
              dsimp only [ugo, uwp, ust, uct, rfd, Bleave, Nat.beq, lv_args, rlk, rs1, rs2, rdl, rky, rcd, rno, rsw, Value.category, List.filter, List.take, List.drop, List.reverse, List.reverseAux, List.cons_append, List.nil_append, Option.toList, Int.toNat, Int.reduceToNat, if_pos, if_neg, reduceIte, ↓reduceIte, Nat.reduceAdd, Nat.reduceEqDiff, Nat.reduceBEq, beq_self_eq_true, Bool.not_true, Bool.not_false, Bool.and_true, Bool.and_false, Bool.true_and, Bool.false_and, gI_sI, gI_sL, gI_sA, gI_sM, gL_sI, gL_sL, gL_sA, gL_sM, aI_sI, aI_sL, aI_sA, aI_sM, aL_sI, aL_sL, aL_sA, aL_sM, Bleave_0, Bleave_2, Bleave_10, Bleave_20, Bleave_29, Bleave_36, Bleave_42, oi_0, oi_1]; try dsimp only
              exact hW _ 2 [(0, .ref 1000), (1, .int k), (2, .int token), (3, .int (v + 1))] _ _ _ (by simp [rdl, rky]) (loop _ (by omega) (v + 1) f)
            · refine hB _ _ _ _ _ (fun m12 hm12 => ?_)
              dsimp only [ugo, uwp, ust, uct, rfd, Bleave, Nat.beq, lv_args, rlk, rs1, rs2, rdl, rky, rcd, rno, rsw, Value.category, List.filter, List.take, List.drop, List.reverse, List.reverseAux, List.cons_append, List.nil_append, Option.toList, Int.toNat, Int.reduceToNat, if_pos, if_neg, reduceIte, ↓reduceIte, Nat.reduceAdd, Nat.reduceEqDiff, Nat.reduceBEq, beq_self_eq_true, Bool.not_true, Bool.not_false, Bool.and_true, Bool.and_false, Bool.true_and, Bool.false_and, gI_sI, gI_sL, gI_sA, gI_sM, gL_sI, gL_sL, gL_sA, gL_sM, aI_sI, aI_sL, aI_sA, aI_sM, aL_sI, aL_sL, aL_sA, aL_sM, Bleave_0, Bleave_2, Bleave_10, Bleave_20, Bleave_29, Bleave_36, Bleave_42, oi_0, oi_1]; try dsimp only
              intro p13
              refine hB _ _ _ _ _ (fun m14 hm14 => ?_)
              dsimp only [ugo, uwp, ust, uct, rfd, Bleave, Nat.beq, lv_args, rlk, rs1, rs2, rdl, rky, rcd, rno, rsw, Value.category, List.filter, List.take, List.drop, List.reverse, List.reverseAux, List.cons_append, List.nil_append, Option.toList, Int.toNat, Int.reduceToNat, if_pos, if_neg, reduceIte, ↓reduceIte, Nat.reduceAdd, Nat.reduceEqDiff, Nat.reduceBEq, beq_self_eq_true, Bool.not_true, Bool.not_false, Bool.and_true, Bool.and_false, Bool.true_and, Bool.false_and, gI_sI, gI_sL, gI_sA, gI_sM, gL_sI, gL_sL, gL_sA, gL_sM, aI_sI, aI_sL, aI_sA, aI_sM, aL_sI, aL_sL, aL_sA, aL_sM, Bleave_0, Bleave_2, Bleave_10, Bleave_20, Bleave_29, Bleave_36, Bleave_42, oi_0, oi_1]; try dsimp only
              rw [sA_sA]
              exact hW _ 2 [(0, .ref 1000), (1, .int k), (2, .int token), (3, .int (v + 1))] _ _ _ (by simp [rdl, rky]) (loop _ (by omega) (v + 1) (upd f v.toNatClampNeg token))
    intro n0
    refine hB _ _ _ _ _ (fun m1 hm1 => ?_)
    dsimp only [ugo, uwp, ust, uct, rfd, Bleave, Nat.beq, lv_args, rlk, rs1, rs2, rdl, rky, rcd, rno, rsw, Value.category, List.filter, List.take, List.drop, List.reverse, List.reverseAux, List.cons_append, List.nil_append, Option.toList, Int.toNat, Int.reduceToNat, if_pos, if_neg, reduceIte, ↓reduceIte, Nat.reduceAdd, Nat.reduceEqDiff, Nat.reduceBEq, beq_self_eq_true, Bool.not_true, Bool.not_false, Bool.and_true, Bool.and_false, Bool.true_and, Bool.false_and, gI_sI, gI_sL, gI_sA, gI_sM, gL_sI, gL_sL, gL_sA, gL_sM, aI_sI, aI_sL, aI_sA, aI_sM, aL_sI, aL_sL, aL_sA, aL_sM, Bleave_0, Bleave_2, Bleave_10, Bleave_20, Bleave_29, Bleave_36, Bleave_42, oi_0, oi_1]; try dsimp only
    rw [show σ = sA σ 48 (aI σ 48) from sA_id.symm]
    exact hW _ 2 [(0, .ref 1000), (1, .int k), (2, .int token), (3, .int 0)] _ _ _ (by simp [rdl, rky]) (loop _ 0 _)
  next => exact hP.elim
def Pu_named_ : UP1 := fun A1 σ => match A1 with
  | [.int t, .int on] => True
  | _ => False
def Qu_named_ : UQ1 := fun A1 σ w τ => match A1 with
  | [.int t, .int on] => ∃ r : Int32, w = some (.int r) ∧ σ = τ
  | _ => False
set_option maxRecDepth 100000 in
set_option maxHeartbeats 4000000 in
theorem u_named_ : UMet 64 Pu_named_ Qu_named_ := by
  refine UMet.by Bnamed_ [(63, Pu_sameName, Qu_sameName)] rfl (ucc u_sameName uc0) ?_
  intro A1 σ hP K hB hW
  unfold Pu_named_ at hP
  split at hP
  next t on =>
    have loop : ∀ (n : Nat) (f : Int32), K n 7 [(0, .ref 1000), (1, .int t), (2, .int on), (3, .int f)] [] σ := by
      intro n
      induction n using Nat.strongRecOn with
      | ind n loop =>
        intro f
        refine hB _ _ _ _ _ (fun m1 hm1 => ?_)
        dsimp only [ugo, uwp, ust, uct, rfd, Bnamed_, Nat.beq, lv_args, rlk, rs1, rs2, rdl, rky, rcd, rno, rsw, Value.category, List.filter, List.take, List.drop, List.reverse, List.reverseAux, List.cons_append, List.nil_append, Option.toList, Int.toNat, Int.reduceToNat, if_pos, if_neg, reduceIte, ↓reduceIte, Nat.reduceAdd, Nat.reduceEqDiff, Nat.reduceBEq, beq_self_eq_true, Bool.not_true, Bool.not_false, Bool.and_true, Bool.and_false, Bool.true_and, Bool.false_and, gI_sI, gI_sL, gI_sA, gI_sM, gL_sI, gL_sL, gL_sA, gL_sM, aI_sI, aI_sL, aI_sA, aI_sM, aL_sI, aL_sL, aL_sA, aL_sM, Bnamed__0, Bnamed__7, Bnamed__11, Bnamed__22, Bnamed__41, Bnamed__44, Bnamed__48, Bnamed__55, Bnamed__65, Bnamed__76, Bnamed__78, Bnamed__86, Bnamed__92, Bnamed__99, Bnamed__110, Bnamed__112, Bnamed__113, Bnamed__119, oi_1, oi_4, oi_5, oi_6, oi_7, oi_m1, oi_m2, Pu_sameName]; try dsimp only
        refine ⟨fun h2 => ?_, fun h2 => ?_⟩
        · refine hB _ _ _ _ _ (fun m3 hm3 => ?_)
          dsimp only [ugo, uwp, ust, uct, rfd, Bnamed_, Nat.beq, lv_args, rlk, rs1, rs2, rdl, rky, rcd, rno, rsw, Value.category, List.filter, List.take, List.drop, List.reverse, List.reverseAux, List.cons_append, List.nil_append, Option.toList, Int.toNat, Int.reduceToNat, if_pos, if_neg, reduceIte, ↓reduceIte, Nat.reduceAdd, Nat.reduceEqDiff, Nat.reduceBEq, beq_self_eq_true, Bool.not_true, Bool.not_false, Bool.and_true, Bool.and_false, Bool.true_and, Bool.false_and, gI_sI, gI_sL, gI_sA, gI_sM, gL_sI, gL_sL, gL_sA, gL_sM, aI_sI, aI_sL, aI_sA, aI_sM, aL_sI, aL_sL, aL_sA, aL_sM, Bnamed__0, Bnamed__7, Bnamed__11, Bnamed__22, Bnamed__41, Bnamed__44, Bnamed__48, Bnamed__55, Bnamed__65, Bnamed__76, Bnamed__78, Bnamed__86, Bnamed__92, Bnamed__99, Bnamed__110, Bnamed__112, Bnamed__113, Bnamed__119, oi_1, oi_4, oi_5, oi_6, oi_7, oi_m1, oi_m2, Pu_sameName]; try dsimp only
          unfold Qu_named_
          try dsimp only
          exact ⟨_, rfl, rfl⟩
        · refine hB _ _ _ _ _ (fun m4 hm4 => ?_)
          dsimp only [ugo, uwp, ust, uct, rfd, Bnamed_, Nat.beq, lv_args, rlk, rs1, rs2, rdl, rky, rcd, rno, rsw, Value.category, List.filter, List.take, List.drop, List.reverse, List.reverseAux, List.cons_append, List.nil_append, Option.toList, Int.toNat, Int.reduceToNat, if_pos, if_neg, reduceIte, ↓reduceIte, Nat.reduceAdd, Nat.reduceEqDiff, Nat.reduceBEq, beq_self_eq_true, Bool.not_true, Bool.not_false, Bool.and_true, Bool.and_false, Bool.true_and, Bool.false_and, gI_sI, gI_sL, gI_sA, gI_sM, gL_sI, gL_sL, gL_sA, gL_sM, aI_sI, aI_sL, aI_sA, aI_sM, aL_sI, aL_sL, aL_sA, aL_sM, Bnamed__0, Bnamed__7, Bnamed__11, Bnamed__22, Bnamed__41, Bnamed__44, Bnamed__48, Bnamed__55, Bnamed__65, Bnamed__76, Bnamed__78, Bnamed__86, Bnamed__92, Bnamed__99, Bnamed__110, Bnamed__112, Bnamed__113, Bnamed__119, oi_1, oi_4, oi_5, oi_6, oi_7, oi_m1, oi_m2, Pu_sameName]; try dsimp only
          intro p5
          refine ⟨fun h6 => ?_, fun h6 => ?_⟩
          · refine hB _ _ _ _ _ (fun m7 hm7 => ?_)
            dsimp only [ugo, uwp, ust, uct, rfd, Bnamed_, Nat.beq, lv_args, rlk, rs1, rs2, rdl, rky, rcd, rno, rsw, Value.category, List.filter, List.take, List.drop, List.reverse, List.reverseAux, List.cons_append, List.nil_append, Option.toList, Int.toNat, Int.reduceToNat, if_pos, if_neg, reduceIte, ↓reduceIte, Nat.reduceAdd, Nat.reduceEqDiff, Nat.reduceBEq, beq_self_eq_true, Bool.not_true, Bool.not_false, Bool.and_true, Bool.and_false, Bool.true_and, Bool.false_and, gI_sI, gI_sL, gI_sA, gI_sM, gL_sI, gL_sL, gL_sA, gL_sM, aI_sI, aI_sL, aI_sA, aI_sM, aL_sI, aL_sL, aL_sA, aL_sM, Bnamed__0, Bnamed__7, Bnamed__11, Bnamed__22, Bnamed__41, Bnamed__44, Bnamed__48, Bnamed__55, Bnamed__65, Bnamed__76, Bnamed__78, Bnamed__86, Bnamed__92, Bnamed__99, Bnamed__110, Bnamed__112, Bnamed__113, Bnamed__119, oi_1, oi_4, oi_5, oi_6, oi_7, oi_m1, oi_m2, Pu_sameName]; try dsimp only
            exact hW _ 7 [(0, .ref 1000), (1, .int t), (2, .int on), (3, .int (f + -1))] _ _ _ (by simp [rdl, rky]) (loop _ (by omega) (f + -1))
          · refine hB _ _ _ _ _ (fun m8 hm8 => ?_)
            dsimp only [ugo, uwp, ust, uct, rfd, Bnamed_, Nat.beq, lv_args, rlk, rs1, rs2, rdl, rky, rcd, rno, rsw, Value.category, List.filter, List.take, List.drop, List.reverse, List.reverseAux, List.cons_append, List.nil_append, Option.toList, Int.toNat, Int.reduceToNat, if_pos, if_neg, reduceIte, ↓reduceIte, Nat.reduceAdd, Nat.reduceEqDiff, Nat.reduceBEq, beq_self_eq_true, Bool.not_true, Bool.not_false, Bool.and_true, Bool.and_false, Bool.true_and, Bool.false_and, gI_sI, gI_sL, gI_sA, gI_sM, gL_sI, gL_sL, gL_sA, gL_sM, aI_sI, aI_sL, aI_sA, aI_sM, aL_sI, aL_sL, aL_sA, aL_sM, Bnamed__0, Bnamed__7, Bnamed__11, Bnamed__22, Bnamed__41, Bnamed__44, Bnamed__48, Bnamed__55, Bnamed__65, Bnamed__76, Bnamed__78, Bnamed__86, Bnamed__92, Bnamed__99, Bnamed__110, Bnamed__112, Bnamed__113, Bnamed__119, oi_1, oi_4, oi_5, oi_6, oi_7, oi_m1, oi_m2, Pu_sameName]; try dsimp only
            intro p9
            intro p10
            refine ⟨trivial, fun w11 τ11 hq11 => ?_⟩
            obtain ⟨r11, rfl, rfl⟩ := hq11
            dsimp only [Option.toList, List.cons_append, List.nil_append, Nat.beq, gI_sI, gI_sL, gI_sA, gI_sM, gL_sI, gL_sL, gL_sA, gL_sM, aI_sI, aI_sL, aI_sA, aI_sM, aL_sI, aL_sL, aL_sA, aL_sM]
            refine ⟨fun h12 => ?_, fun h12 => ?_⟩
            · refine hB _ _ _ _ _ (fun m13 hm13 => ?_)
              dsimp only [ugo, uwp, ust, uct, rfd, Bnamed_, Nat.beq, lv_args, rlk, rs1, rs2, rdl, rky, rcd, rno, rsw, Value.category, List.filter, List.take, List.drop, List.reverse, List.reverseAux, List.cons_append, List.nil_append, Option.toList, Int.toNat, Int.reduceToNat, if_pos, if_neg, reduceIte, ↓reduceIte, Nat.reduceAdd, Nat.reduceEqDiff, Nat.reduceBEq, beq_self_eq_true, Bool.not_true, Bool.not_false, Bool.and_true, Bool.and_false, Bool.true_and, Bool.false_and, gI_sI, gI_sL, gI_sA, gI_sM, gL_sI, gL_sL, gL_sA, gL_sM, aI_sI, aI_sL, aI_sA, aI_sM, aL_sI, aL_sL, aL_sA, aL_sM, Bnamed__0, Bnamed__7, Bnamed__11, Bnamed__22, Bnamed__41, Bnamed__44, Bnamed__48, Bnamed__55, Bnamed__65, Bnamed__76, Bnamed__78, Bnamed__86, Bnamed__92, Bnamed__99, Bnamed__110, Bnamed__112, Bnamed__113, Bnamed__119, oi_1, oi_4, oi_5, oi_6, oi_7, oi_m1, oi_m2, Pu_sameName]; try dsimp only
              refine ⟨fun h14 => ?_, fun h14 => ?_⟩
              · refine hB _ _ _ _ _ (fun m15 hm15 => ?_)
                dsimp only [ugo, uwp, ust, uct, rfd, Bnamed_, Nat.beq, lv_args, rlk, rs1, rs2, rdl, rky, rcd, rno, rsw, Value.category, List.filter, List.take, List.drop, List.reverse, List.reverseAux, List.cons_append, List.nil_append, Option.toList, Int.toNat, Int.reduceToNat, if_pos, if_neg, reduceIte, ↓reduceIte, Nat.reduceAdd, Nat.reduceEqDiff, Nat.reduceBEq, beq_self_eq_true, Bool.not_true, Bool.not_false, Bool.and_true, Bool.and_false, Bool.true_and, Bool.false_and, gI_sI, gI_sL, gI_sA, gI_sM, gL_sI, gL_sL, gL_sA, gL_sM, aI_sI, aI_sL, aI_sA, aI_sM, aL_sI, aL_sL, aL_sA, aL_sM, Bnamed__0, Bnamed__7, Bnamed__11, Bnamed__22, Bnamed__41, Bnamed__44, Bnamed__48, Bnamed__55, Bnamed__65, Bnamed__76, Bnamed__78, Bnamed__86, Bnamed__92, Bnamed__99, Bnamed__110, Bnamed__112, Bnamed__113, Bnamed__119, oi_1, oi_4, oi_5, oi_6, oi_7, oi_m1, oi_m2, Pu_sameName]; try dsimp only
                refine ⟨fun h16 => ?_, fun h16 => ?_⟩
                · refine hB _ _ _ _ _ (fun m17 hm17 => ?_)
                  dsimp only [ugo, uwp, ust, uct, rfd, Bnamed_, Nat.beq, lv_args, rlk, rs1, rs2, rdl, rky, rcd, rno, rsw, Value.category, List.filter, List.take, List.drop, List.reverse, List.reverseAux, List.cons_append, List.nil_append, Option.toList, Int.toNat, Int.reduceToNat, if_pos, if_neg, reduceIte, ↓reduceIte, Nat.reduceAdd, Nat.reduceEqDiff, Nat.reduceBEq, beq_self_eq_true, Bool.not_true, Bool.not_false, Bool.and_true, Bool.and_false, Bool.true_and, Bool.false_and, gI_sI, gI_sL, gI_sA, gI_sM, gL_sI, gL_sL, gL_sA, gL_sM, aI_sI, aI_sL, aI_sA, aI_sM, aL_sI, aL_sL, aL_sA, aL_sM, Bnamed__0, Bnamed__7, Bnamed__11, Bnamed__22, Bnamed__41, Bnamed__44, Bnamed__48, Bnamed__55, Bnamed__65, Bnamed__76, Bnamed__78, Bnamed__86, Bnamed__92, Bnamed__99, Bnamed__110, Bnamed__112, Bnamed__113, Bnamed__119, oi_1, oi_4, oi_5, oi_6, oi_7, oi_m1, oi_m2, Pu_sameName]; try dsimp only
                  refine hB _ _ _ _ _ (fun m18 hm18 => ?_)
                  dsimp only [ugo, uwp, ust, uct, rfd, Bnamed_, Nat.beq, lv_args, rlk, rs1, rs2, rdl, rky, rcd, rno, rsw, Value.category, List.filter, List.take, List.drop, List.reverse, List.reverseAux, List.cons_append, List.nil_append, Option.toList, Int.toNat, Int.reduceToNat, if_pos, if_neg, reduceIte, ↓reduceIte, Nat.reduceAdd, Nat.reduceEqDiff, Nat.reduceBEq, beq_self_eq_true, Bool.not_true, Bool.not_false, Bool.and_true, Bool.and_false, Bool.true_and, Bool.false_and, gI_sI, gI_sL, gI_sA, gI_sM, gL_sI, gL_sL, gL_sA, gL_sM, aI_sI, aI_sL, aI_sA, aI_sM, aL_sI, aL_sL, aL_sA, aL_sM, Bnamed__0, Bnamed__7, Bnamed__11, Bnamed__22, Bnamed__41, Bnamed__44, Bnamed__48, Bnamed__55, Bnamed__65, Bnamed__76, Bnamed__78, Bnamed__86, Bnamed__92, Bnamed__99, Bnamed__110, Bnamed__112, Bnamed__113, Bnamed__119, oi_1, oi_4, oi_5, oi_6, oi_7, oi_m1, oi_m2, Pu_sameName]; try dsimp only
                  refine ⟨fun h19 => absurd h19 (by decide), fun h19 => ?_⟩
                  clear h19
                  refine hB _ _ _ _ _ (fun m20 hm20 => ?_)
                  dsimp only [ugo, uwp, ust, uct, rfd, Bnamed_, Nat.beq, lv_args, rlk, rs1, rs2, rdl, rky, rcd, rno, rsw, Value.category, List.filter, List.take, List.drop, List.reverse, List.reverseAux, List.cons_append, List.nil_append, Option.toList, Int.toNat, Int.reduceToNat, if_pos, if_neg, reduceIte, ↓reduceIte, Nat.reduceAdd, Nat.reduceEqDiff, Nat.reduceBEq, beq_self_eq_true, Bool.not_true, Bool.not_false, Bool.and_true, Bool.and_false, Bool.true_and, Bool.false_and, gI_sI, gI_sL, gI_sA, gI_sM, gL_sI, gL_sL, gL_sA, gL_sM, aI_sI, aI_sL, aI_sA, aI_sM, aL_sI, aL_sL, aL_sA, aL_sM, Bnamed__0, Bnamed__7, Bnamed__11, Bnamed__22, Bnamed__41, Bnamed__44, Bnamed__48, Bnamed__55, Bnamed__65, Bnamed__76, Bnamed__78, Bnamed__86, Bnamed__92, Bnamed__99, Bnamed__110, Bnamed__112, Bnamed__113, Bnamed__119, oi_1, oi_4, oi_5, oi_6, oi_7, oi_m1, oi_m2, Pu_sameName]; try dsimp only
                  refine ⟨fun h21 => absurd h21 (by decide), fun h21 => ?_⟩
                  clear h21
                  refine hB _ _ _ _ _ (fun m22 hm22 => ?_)
                  dsimp only [ugo, uwp, ust, uct, rfd, Bnamed_, Nat.beq, lv_args, rlk, rs1, rs2, rdl, rky, rcd, rno, rsw, Value.category, List.filter, List.take, List.drop, List.reverse, List.reverseAux, List.cons_append, List.nil_append, Option.toList, Int.toNat, Int.reduceToNat, if_pos, if_neg, reduceIte, ↓reduceIte, Nat.reduceAdd, Nat.reduceEqDiff, Nat.reduceBEq, beq_self_eq_true, Bool.not_true, Bool.not_false, Bool.and_true, Bool.and_false, Bool.true_and, Bool.false_and, gI_sI, gI_sL, gI_sA, gI_sM, gL_sI, gL_sL, gL_sA, gL_sM, aI_sI, aI_sL, aI_sA, aI_sM, aL_sI, aL_sL, aL_sA, aL_sM, Bnamed__0, Bnamed__7, Bnamed__11, Bnamed__22, Bnamed__41, Bnamed__44, Bnamed__48, Bnamed__55, Bnamed__65, Bnamed__76, Bnamed__78, Bnamed__86, Bnamed__92, Bnamed__99, Bnamed__110, Bnamed__112, Bnamed__113, Bnamed__119, oi_1, oi_4, oi_5, oi_6, oi_7, oi_m1, oi_m2, Pu_sameName]; try dsimp only
                  refine ⟨fun h23 => ?_, fun h23 => absurd h23 (by decide)⟩
                  clear h23
                  refine hB _ _ _ _ _ (fun m24 hm24 => ?_)
                  dsimp only [ugo, uwp, ust, uct, rfd, Bnamed_, Nat.beq, lv_args, rlk, rs1, rs2, rdl, rky, rcd, rno, rsw, Value.category, List.filter, List.take, List.drop, List.reverse, List.reverseAux, List.cons_append, List.nil_append, Option.toList, Int.toNat, Int.reduceToNat, if_pos, if_neg, reduceIte, ↓reduceIte, Nat.reduceAdd, Nat.reduceEqDiff, Nat.reduceBEq, beq_self_eq_true, Bool.not_true, Bool.not_false, Bool.and_true, Bool.and_false, Bool.true_and, Bool.false_and, gI_sI, gI_sL, gI_sA, gI_sM, gL_sI, gL_sL, gL_sA, gL_sM, aI_sI, aI_sL, aI_sA, aI_sM, aL_sI, aL_sL, aL_sA, aL_sM, Bnamed__0, Bnamed__7, Bnamed__11, Bnamed__22, Bnamed__41, Bnamed__44, Bnamed__48, Bnamed__55, Bnamed__65, Bnamed__76, Bnamed__78, Bnamed__86, Bnamed__92, Bnamed__99, Bnamed__110, Bnamed__112, Bnamed__113, Bnamed__119, oi_1, oi_4, oi_5, oi_6, oi_7, oi_m1, oi_m2, Pu_sameName]; try dsimp only
                  refine hB _ _ _ _ _ (fun m25 hm25 => ?_)
                  dsimp only [ugo, uwp, ust, uct, rfd, Bnamed_, Nat.beq, lv_args, rlk, rs1, rs2, rdl, rky, rcd, rno, rsw, Value.category, List.filter, List.take, List.drop, List.reverse, List.reverseAux, List.cons_append, List.nil_append, Option.toList, Int.toNat, Int.reduceToNat, if_pos, if_neg, reduceIte, ↓reduceIte, Nat.reduceAdd, Nat.reduceEqDiff, Nat.reduceBEq, beq_self_eq_true, Bool.not_true, Bool.not_false, Bool.and_true, Bool.and_false, Bool.true_and, Bool.false_and, gI_sI, gI_sL, gI_sA, gI_sM, gL_sI, gL_sL, gL_sA, gL_sM, aI_sI, aI_sL, aI_sA, aI_sM, aL_sI, aL_sL, aL_sA, aL_sM, Bnamed__0, Bnamed__7, Bnamed__11, Bnamed__22, Bnamed__41, Bnamed__44, Bnamed__48, Bnamed__55, Bnamed__65, Bnamed__76, Bnamed__78, Bnamed__86, Bnamed__92, Bnamed__99, Bnamed__110, Bnamed__112, Bnamed__113, Bnamed__119, oi_1, oi_4, oi_5, oi_6, oi_7, oi_m1, oi_m2, Pu_sameName]; try dsimp only
                  unfold Qu_named_
                  try dsimp only
                  exact ⟨_, rfl, rfl⟩
                · refine hB _ _ _ _ _ (fun m26 hm26 => ?_)
                  dsimp only [ugo, uwp, ust, uct, rfd, Bnamed_, Nat.beq, lv_args, rlk, rs1, rs2, rdl, rky, rcd, rno, rsw, Value.category, List.filter, List.take, List.drop, List.reverse, List.reverseAux, List.cons_append, List.nil_append, Option.toList, Int.toNat, Int.reduceToNat, if_pos, if_neg, reduceIte, ↓reduceIte, Nat.reduceAdd, Nat.reduceEqDiff, Nat.reduceBEq, beq_self_eq_true, Bool.not_true, Bool.not_false, Bool.and_true, Bool.and_false, Bool.true_and, Bool.false_and, gI_sI, gI_sL, gI_sA, gI_sM, gL_sI, gL_sL, gL_sA, gL_sM, aI_sI, aI_sL, aI_sA, aI_sM, aL_sI, aL_sL, aL_sA, aL_sM, Bnamed__0, Bnamed__7, Bnamed__11, Bnamed__22, Bnamed__41, Bnamed__44, Bnamed__48, Bnamed__55, Bnamed__65, Bnamed__76, Bnamed__78, Bnamed__86, Bnamed__92, Bnamed__99, Bnamed__110, Bnamed__112, Bnamed__113, Bnamed__119, oi_1, oi_4, oi_5, oi_6, oi_7, oi_m1, oi_m2, Pu_sameName]; try dsimp only
                  intro p27
                  refine hB _ _ _ _ _ (fun m28 hm28 => ?_)
                  dsimp only [ugo, uwp, ust, uct, rfd, Bnamed_, Nat.beq, lv_args, rlk, rs1, rs2, rdl, rky, rcd, rno, rsw, Value.category, List.filter, List.take, List.drop, List.reverse, List.reverseAux, List.cons_append, List.nil_append, Option.toList, Int.toNat, Int.reduceToNat, if_pos, if_neg, reduceIte, ↓reduceIte, Nat.reduceAdd, Nat.reduceEqDiff, Nat.reduceBEq, beq_self_eq_true, Bool.not_true, Bool.not_false, Bool.and_true, Bool.and_false, Bool.true_and, Bool.false_and, gI_sI, gI_sL, gI_sA, gI_sM, gL_sI, gL_sL, gL_sA, gL_sM, aI_sI, aI_sL, aI_sA, aI_sM, aL_sI, aL_sL, aL_sA, aL_sM, Bnamed__0, Bnamed__7, Bnamed__11, Bnamed__22, Bnamed__41, Bnamed__44, Bnamed__48, Bnamed__55, Bnamed__65, Bnamed__76, Bnamed__78, Bnamed__86, Bnamed__92, Bnamed__99, Bnamed__110, Bnamed__112, Bnamed__113, Bnamed__119, oi_1, oi_4, oi_5, oi_6, oi_7, oi_m1, oi_m2, Pu_sameName]; try dsimp only
                  refine ⟨fun h29 => ?_, fun h29 => ?_⟩
                  · refine hB _ _ _ _ _ (fun m30 hm30 => ?_)
                    dsimp only [ugo, uwp, ust, uct, rfd, Bnamed_, Nat.beq, lv_args, rlk, rs1, rs2, rdl, rky, rcd, rno, rsw, Value.category, List.filter, List.take, List.drop, List.reverse, List.reverseAux, List.cons_append, List.nil_append, Option.toList, Int.toNat, Int.reduceToNat, if_pos, if_neg, reduceIte, ↓reduceIte, Nat.reduceAdd, Nat.reduceEqDiff, Nat.reduceBEq, beq_self_eq_true, Bool.not_true, Bool.not_false, Bool.and_true, Bool.and_false, Bool.true_and, Bool.false_and, gI_sI, gI_sL, gI_sA, gI_sM, gL_sI, gL_sL, gL_sA, gL_sM, aI_sI, aI_sL, aI_sA, aI_sM, aL_sI, aL_sL, aL_sA, aL_sM, Bnamed__0, Bnamed__7, Bnamed__11, Bnamed__22, Bnamed__41, Bnamed__44, Bnamed__48, Bnamed__55, Bnamed__65, Bnamed__76, Bnamed__78, Bnamed__86, Bnamed__92, Bnamed__99, Bnamed__110, Bnamed__112, Bnamed__113, Bnamed__119, oi_1, oi_4, oi_5, oi_6, oi_7, oi_m1, oi_m2, Pu_sameName]; try dsimp only
                    intro p31
                    refine hB _ _ _ _ _ (fun m32 hm32 => ?_)
                    dsimp only [ugo, uwp, ust, uct, rfd, Bnamed_, Nat.beq, lv_args, rlk, rs1, rs2, rdl, rky, rcd, rno, rsw, Value.category, List.filter, List.take, List.drop, List.reverse, List.reverseAux, List.cons_append, List.nil_append, Option.toList, Int.toNat, Int.reduceToNat, if_pos, if_neg, reduceIte, ↓reduceIte, Nat.reduceAdd, Nat.reduceEqDiff, Nat.reduceBEq, beq_self_eq_true, Bool.not_true, Bool.not_false, Bool.and_true, Bool.and_false, Bool.true_and, Bool.false_and, gI_sI, gI_sL, gI_sA, gI_sM, gL_sI, gL_sL, gL_sA, gL_sM, aI_sI, aI_sL, aI_sA, aI_sM, aL_sI, aL_sL, aL_sA, aL_sM, Bnamed__0, Bnamed__7, Bnamed__11, Bnamed__22, Bnamed__41, Bnamed__44, Bnamed__48, Bnamed__55, Bnamed__65, Bnamed__76, Bnamed__78, Bnamed__86, Bnamed__92, Bnamed__99, Bnamed__110, Bnamed__112, Bnamed__113, Bnamed__119, oi_1, oi_4, oi_5, oi_6, oi_7, oi_m1, oi_m2, Pu_sameName]; try dsimp only
                    unfold Qu_named_
                    try dsimp only
                    exact ⟨_, rfl, rfl⟩
                  · refine hB _ _ _ _ _ (fun m33 hm33 => ?_)
                    dsimp only [ugo, uwp, ust, uct, rfd, Bnamed_, Nat.beq, lv_args, rlk, rs1, rs2, rdl, rky, rcd, rno, rsw, Value.category, List.filter, List.take, List.drop, List.reverse, List.reverseAux, List.cons_append, List.nil_append, Option.toList, Int.toNat, Int.reduceToNat, if_pos, if_neg, reduceIte, ↓reduceIte, Nat.reduceAdd, Nat.reduceEqDiff, Nat.reduceBEq, beq_self_eq_true, Bool.not_true, Bool.not_false, Bool.and_true, Bool.and_false, Bool.true_and, Bool.false_and, gI_sI, gI_sL, gI_sA, gI_sM, gL_sI, gL_sL, gL_sA, gL_sM, aI_sI, aI_sL, aI_sA, aI_sM, aL_sI, aL_sL, aL_sA, aL_sM, Bnamed__0, Bnamed__7, Bnamed__11, Bnamed__22, Bnamed__41, Bnamed__44, Bnamed__48, Bnamed__55, Bnamed__65, Bnamed__76, Bnamed__78, Bnamed__86, Bnamed__92, Bnamed__99, Bnamed__110, Bnamed__112, Bnamed__113, Bnamed__119, oi_1, oi_4, oi_5, oi_6, oi_7, oi_m1, oi_m2, Pu_sameName]; try dsimp only
                    refine ⟨fun h34 => ?_, fun h34 => ?_⟩
                    · refine hB _ _ _ _ _ (fun m35 hm35 => ?_)
                      dsimp only [ugo, uwp, ust, uct, rfd, Bnamed_, Nat.beq, lv_args, rlk, rs1, rs2, rdl, rky, rcd, rno, rsw, Value.category, List.filter, List.take, List.drop, List.reverse, List.reverseAux, List.cons_append, List.nil_append, Option.toList, Int.toNat, Int.reduceToNat, if_pos, if_neg, reduceIte, ↓reduceIte, Nat.reduceAdd, Nat.reduceEqDiff, Nat.reduceBEq, beq_self_eq_true, Bool.not_true, Bool.not_false, Bool.and_true, Bool.and_false, Bool.true_and, Bool.false_and, gI_sI, gI_sL, gI_sA, gI_sM, gL_sI, gL_sL, gL_sA, gL_sM, aI_sI, aI_sL, aI_sA, aI_sM, aL_sI, aL_sL, aL_sA, aL_sM, Bnamed__0, Bnamed__7, Bnamed__11, Bnamed__22, Bnamed__41, Bnamed__44, Bnamed__48, Bnamed__55, Bnamed__65, Bnamed__76, Bnamed__78, Bnamed__86, Bnamed__92, Bnamed__99, Bnamed__110, Bnamed__112, Bnamed__113, Bnamed__119, oi_1, oi_4, oi_5, oi_6, oi_7, oi_m1, oi_m2, Pu_sameName]; try dsimp only
                      intro p36
                      refine hB _ _ _ _ _ (fun m37 hm37 => ?_)
                      dsimp only [ugo, uwp, ust, uct, rfd, Bnamed_, Nat.beq, lv_args, rlk, rs1, rs2, rdl, rky, rcd, rno, rsw, Value.category, List.filter, List.take, List.drop, List.reverse, List.reverseAux, List.cons_append, List.nil_append, Option.toList, Int.toNat, Int.reduceToNat, if_pos, if_neg, reduceIte, ↓reduceIte, Nat.reduceAdd, Nat.reduceEqDiff, Nat.reduceBEq, beq_self_eq_true, Bool.not_true, Bool.not_false, Bool.and_true, Bool.and_false, Bool.true_and, Bool.false_and, gI_sI, gI_sL, gI_sA, gI_sM, gL_sI, gL_sL, gL_sA, gL_sM, aI_sI, aI_sL, aI_sA, aI_sM, aL_sI, aL_sL, aL_sA, aL_sM, Bnamed__0, Bnamed__7, Bnamed__11, Bnamed__22, Bnamed__41, Bnamed__44, Bnamed__48, Bnamed__55, Bnamed__65, Bnamed__76, Bnamed__78, Bnamed__86, Bnamed__92, Bnamed__99, Bnamed__110, Bnamed__112, Bnamed__113, Bnamed__119, oi_1, oi_4, oi_5, oi_6, oi_7, oi_m1, oi_m2, Pu_sameName]; try dsimp only
                      unfold Qu_named_
                      try dsimp only
                      exact ⟨_, rfl, rfl⟩
                    · refine hB _ _ _ _ _ (fun m38 hm38 => ?_)
                      dsimp only [ugo, uwp, ust, uct, rfd, Bnamed_, Nat.beq, lv_args, rlk, rs1, rs2, rdl, rky, rcd, rno, rsw, Value.category, List.filter, List.take, List.drop, List.reverse, List.reverseAux, List.cons_append, List.nil_append, Option.toList, Int.toNat, Int.reduceToNat, if_pos, if_neg, reduceIte, ↓reduceIte, Nat.reduceAdd, Nat.reduceEqDiff, Nat.reduceBEq, beq_self_eq_true, Bool.not_true, Bool.not_false, Bool.and_true, Bool.and_false, Bool.true_and, Bool.false_and, gI_sI, gI_sL, gI_sA, gI_sM, gL_sI, gL_sL, gL_sA, gL_sM, aI_sI, aI_sL, aI_sA, aI_sM, aL_sI, aL_sL, aL_sA, aL_sM, Bnamed__0, Bnamed__7, Bnamed__11, Bnamed__22, Bnamed__41, Bnamed__44, Bnamed__48, Bnamed__55, Bnamed__65, Bnamed__76, Bnamed__78, Bnamed__86, Bnamed__92, Bnamed__99, Bnamed__110, Bnamed__112, Bnamed__113, Bnamed__119, oi_1, oi_4, oi_5, oi_6, oi_7, oi_m1, oi_m2, Pu_sameName]; try dsimp only
                      refine ⟨fun h39 => ?_, fun h39 => ?_⟩
                      · refine hB _ _ _ _ _ (fun m40 hm40 => ?_)
                        dsimp only [ugo, uwp, ust, uct, rfd, Bnamed_, Nat.beq, lv_args, rlk, rs1, rs2, rdl, rky, rcd, rno, rsw, Value.category, List.filter, List.take, List.drop, List.reverse, List.reverseAux, List.cons_append, List.nil_append, Option.toList, Int.toNat, Int.reduceToNat, if_pos, if_neg, reduceIte, ↓reduceIte, Nat.reduceAdd, Nat.reduceEqDiff, Nat.reduceBEq, beq_self_eq_true, Bool.not_true, Bool.not_false, Bool.and_true, Bool.and_false, Bool.true_and, Bool.false_and, gI_sI, gI_sL, gI_sA, gI_sM, gL_sI, gL_sL, gL_sA, gL_sM, aI_sI, aI_sL, aI_sA, aI_sM, aL_sI, aL_sL, aL_sA, aL_sM, Bnamed__0, Bnamed__7, Bnamed__11, Bnamed__22, Bnamed__41, Bnamed__44, Bnamed__48, Bnamed__55, Bnamed__65, Bnamed__76, Bnamed__78, Bnamed__86, Bnamed__92, Bnamed__99, Bnamed__110, Bnamed__112, Bnamed__113, Bnamed__119, oi_1, oi_4, oi_5, oi_6, oi_7, oi_m1, oi_m2, Pu_sameName]; try dsimp only
                        refine hB _ _ _ _ _ (fun m41 hm41 => ?_)
                        dsimp only [ugo, uwp, ust, uct, rfd, Bnamed_, Nat.beq, lv_args, rlk, rs1, rs2, rdl, rky, rcd, rno, rsw, Value.category, List.filter, List.take, List.drop, List.reverse, List.reverseAux, List.cons_append, List.nil_append, Option.toList, Int.toNat, Int.reduceToNat, if_pos, if_neg, reduceIte, ↓reduceIte, Nat.reduceAdd, Nat.reduceEqDiff, Nat.reduceBEq, beq_self_eq_true, Bool.not_true, Bool.not_false, Bool.and_true, Bool.and_false, Bool.true_and, Bool.false_and, gI_sI, gI_sL, gI_sA, gI_sM, gL_sI, gL_sL, gL_sA, gL_sM, aI_sI, aI_sL, aI_sA, aI_sM, aL_sI, aL_sL, aL_sA, aL_sM, Bnamed__0, Bnamed__7, Bnamed__11, Bnamed__22, Bnamed__41, Bnamed__44, Bnamed__48, Bnamed__55, Bnamed__65, Bnamed__76, Bnamed__78, Bnamed__86, Bnamed__92, Bnamed__99, Bnamed__110, Bnamed__112, Bnamed__113, Bnamed__119, oi_1, oi_4, oi_5, oi_6, oi_7, oi_m1, oi_m2, Pu_sameName]; try dsimp only
                        unfold Qu_named_
                        try dsimp only
                        exact ⟨_, rfl, rfl⟩
                      · refine hB _ _ _ _ _ (fun m42 hm42 => ?_)
                        dsimp only [ugo, uwp, ust, uct, rfd, Bnamed_, Nat.beq, lv_args, rlk, rs1, rs2, rdl, rky, rcd, rno, rsw, Value.category, List.filter, List.take, List.drop, List.reverse, List.reverseAux, List.cons_append, List.nil_append, Option.toList, Int.toNat, Int.reduceToNat, if_pos, if_neg, reduceIte, ↓reduceIte, Nat.reduceAdd, Nat.reduceEqDiff, Nat.reduceBEq, beq_self_eq_true, Bool.not_true, Bool.not_false, Bool.and_true, Bool.and_false, Bool.true_and, Bool.false_and, gI_sI, gI_sL, gI_sA, gI_sM, gL_sI, gL_sL, gL_sA, gL_sM, aI_sI, aI_sL, aI_sA, aI_sM, aL_sI, aL_sL, aL_sA, aL_sM, Bnamed__0, Bnamed__7, Bnamed__11, Bnamed__22, Bnamed__41, Bnamed__44, Bnamed__48, Bnamed__55, Bnamed__65, Bnamed__76, Bnamed__78, Bnamed__86, Bnamed__92, Bnamed__99, Bnamed__110, Bnamed__112, Bnamed__113, Bnamed__119, oi_1, oi_4, oi_5, oi_6, oi_7, oi_m1, oi_m2, Pu_sameName]; try dsimp only
                        intro p43
                        refine hB _ _ _ _ _ (fun m44 hm44 => ?_)
                        dsimp only [ugo, uwp, ust, uct, rfd, Bnamed_, Nat.beq, lv_args, rlk, rs1, rs2, rdl, rky, rcd, rno, rsw, Value.category, List.filter, List.take, List.drop, List.reverse, List.reverseAux, List.cons_append, List.nil_append, Option.toList, Int.toNat, Int.reduceToNat, if_pos, if_neg, reduceIte, ↓reduceIte, Nat.reduceAdd, Nat.reduceEqDiff, Nat.reduceBEq, beq_self_eq_true, Bool.not_true, Bool.not_false, Bool.and_true, Bool.and_false, Bool.true_and, Bool.false_and, gI_sI, gI_sL, gI_sA, gI_sM, gL_sI, gL_sL, gL_sA, gL_sM, aI_sI, aI_sL, aI_sA, aI_sM, aL_sI, aL_sL, aL_sA, aL_sM, Bnamed__0, Bnamed__7, Bnamed__11, Bnamed__22, Bnamed__41, Bnamed__44, Bnamed__48, Bnamed__55, Bnamed__65, Bnamed__76, Bnamed__78, Bnamed__86, Bnamed__92, Bnamed__99, Bnamed__110, Bnamed__112, Bnamed__113, Bnamed__119, oi_1, oi_4, oi_5, oi_6, oi_7, oi_m1, oi_m2, Pu_sameName]; try dsimp only
                        unfold Qu_named_
                        try dsimp only
                        exact ⟨_, rfl, rfl⟩
              · refine hB _ _ _ _ _ (fun m45 hm45 => ?_)
                dsimp only [ugo, uwp, ust, uct, rfd, Bnamed_, Nat.beq, lv_args, rlk, rs1, rs2, rdl, rky, rcd, rno, rsw, Value.category, List.filter, List.take, List.drop, List.reverse, List.reverseAux, List.cons_append, List.nil_append, Option.toList, Int.toNat, Int.reduceToNat, if_pos, if_neg, reduceIte, ↓reduceIte, Nat.reduceAdd, Nat.reduceEqDiff, Nat.reduceBEq, beq_self_eq_true, Bool.not_true, Bool.not_false, Bool.and_true, Bool.and_false, Bool.true_and, Bool.false_and, gI_sI, gI_sL, gI_sA, gI_sM, gL_sI, gL_sL, gL_sA, gL_sM, aI_sI, aI_sL, aI_sA, aI_sM, aL_sI, aL_sL, aL_sA, aL_sM, Bnamed__0, Bnamed__7, Bnamed__11, Bnamed__22, Bnamed__41, Bnamed__44, Bnamed__48, Bnamed__55, Bnamed__65, Bnamed__76, Bnamed__78, Bnamed__86, Bnamed__92, Bnamed__99, Bnamed__110, Bnamed__112, Bnamed__113, Bnamed__119, oi_1, oi_4, oi_5, oi_6, oi_7, oi_m1, oi_m2, Pu_sameName]; try dsimp only
                intro p46
                unfold Qu_named_
                try dsimp only
                exact ⟨_, rfl, rfl⟩
            · refine hB _ _ _ _ _ (fun m47 hm47 => ?_)
              dsimp only [ugo, uwp, ust, uct, rfd, Bnamed_, Nat.beq, lv_args, rlk, rs1, rs2, rdl, rky, rcd, rno, rsw, Value.category, List.filter, List.take, List.drop, List.reverse, List.reverseAux, List.cons_append, List.nil_append, Option.toList, Int.toNat, Int.reduceToNat, if_pos, if_neg, reduceIte, ↓reduceIte, Nat.reduceAdd, Nat.reduceEqDiff, Nat.reduceBEq, beq_self_eq_true, Bool.not_true, Bool.not_false, Bool.and_true, Bool.and_false, Bool.true_and, Bool.false_and, gI_sI, gI_sL, gI_sA, gI_sM, gL_sI, gL_sL, gL_sA, gL_sM, aI_sI, aI_sL, aI_sA, aI_sM, aL_sI, aL_sL, aL_sA, aL_sM, Bnamed__0, Bnamed__7, Bnamed__11, Bnamed__22, Bnamed__41, Bnamed__44, Bnamed__48, Bnamed__55, Bnamed__65, Bnamed__76, Bnamed__78, Bnamed__86, Bnamed__92, Bnamed__99, Bnamed__110, Bnamed__112, Bnamed__113, Bnamed__119, oi_1, oi_4, oi_5, oi_6, oi_7, oi_m1, oi_m2, Pu_sameName]; try dsimp only
              refine hB _ _ _ _ _ (fun m48 hm48 => ?_)
              dsimp only [ugo, uwp, ust, uct, rfd, Bnamed_, Nat.beq, lv_args, rlk, rs1, rs2, rdl, rky, rcd, rno, rsw, Value.category, List.filter, List.take, List.drop, List.reverse, List.reverseAux, List.cons_append, List.nil_append, Option.toList, Int.toNat, Int.reduceToNat, if_pos, if_neg, reduceIte, ↓reduceIte, Nat.reduceAdd, Nat.reduceEqDiff, Nat.reduceBEq, beq_self_eq_true, Bool.not_true, Bool.not_false, Bool.and_true, Bool.and_false, Bool.true_and, Bool.false_and, gI_sI, gI_sL, gI_sA, gI_sM, gL_sI, gL_sL, gL_sA, gL_sM, aI_sI, aI_sL, aI_sA, aI_sM, aL_sI, aL_sL, aL_sA, aL_sM, Bnamed__0, Bnamed__7, Bnamed__11, Bnamed__22, Bnamed__41, Bnamed__44, Bnamed__48, Bnamed__55, Bnamed__65, Bnamed__76, Bnamed__78, Bnamed__86, Bnamed__92, Bnamed__99, Bnamed__110, Bnamed__112, Bnamed__113, Bnamed__119, oi_1, oi_4, oi_5, oi_6, oi_7, oi_m1, oi_m2, Pu_sameName]; try dsimp only
              exact hW _ 7 [(0, .ref 1000), (1, .int t), (2, .int on), (3, .int (f + -1))] _ _ _ (by simp [rdl, rky]) (loop _ (by omega) (f + -1))
    intro n0
    refine hB _ _ _ _ _ (fun m1 hm1 => ?_)
    dsimp only [ugo, uwp, ust, uct, rfd, Bnamed_, Nat.beq, lv_args, rlk, rs1, rs2, rdl, rky, rcd, rno, rsw, Value.category, List.filter, List.take, List.drop, List.reverse, List.reverseAux, List.cons_append, List.nil_append, Option.toList, Int.toNat, Int.reduceToNat, if_pos, if_neg, reduceIte, ↓reduceIte, Nat.reduceAdd, Nat.reduceEqDiff, Nat.reduceBEq, beq_self_eq_true, Bool.not_true, Bool.not_false, Bool.and_true, Bool.and_false, Bool.true_and, Bool.false_and, gI_sI, gI_sL, gI_sA, gI_sM, gL_sI, gL_sL, gL_sA, gL_sM, aI_sI, aI_sL, aI_sA, aI_sM, aL_sI, aL_sL, aL_sA, aL_sM, Bnamed__0, Bnamed__7, Bnamed__11, Bnamed__22, Bnamed__41, Bnamed__44, Bnamed__48, Bnamed__55, Bnamed__65, Bnamed__76, Bnamed__78, Bnamed__86, Bnamed__92, Bnamed__99, Bnamed__110, Bnamed__112, Bnamed__113, Bnamed__119, oi_1, oi_4, oi_5, oi_6, oi_7, oi_m1, oi_m2, Pu_sameName]; try dsimp only
    exact hW _ 7 [(0, .ref 1000), (1, .int t), (2, .int on), (3, .int (gI σ 62 - 1))] _ _ _ (by simp [rdl, rky]) (loop _ _)
  next => exact hP.elim
def Pj_open : JPr := fun A1 A2 σ ρ => match A1, A2 with
  | [.int sort, .int k, .int step], [.int sort', .int k', .int step'] => Rj 1 σ ρ ∧ sort = sort' ∧ k = k' ∧ k.toNatClampNeg < (gI σ 49).toNatClampNeg
  | _, _ => False
def Qj_open : JQr := fun A1 A2 σ ρ w τ w' τ' => match A1, A2 with
  | [.int sort, .int k, .int step], [.int sort', .int k', .int step'] => ∃ b : Int32, w = some (.int b) ∧ w' = some (.int b) ∧ (b = 0 ∨ (b = 1 ∧ Rj 1 τ τ'))
  | _, _ => False
set_option maxRecDepth 100000 in
set_option maxHeartbeats 4000000 in
theorem j_open : JMet 36 Pj_open Qj_open := by
  refine JMet.by Bopen [(19, Pj_enter, Qj_enter)] rfl (jcc j_enter jc0) ?_
  intro A1 A2 σ ρ hP K hB hW
  unfold Pj_open at hP
  split at hP
  next sort k step sort' k' step' =>
    obtain ⟨hR, rfl, rfl, hk⟩ := hP
    intro n0
    refine hB _ _ _ _ _ _ _ _ (fun m1 hm1 => ?_)
    dsimp only [jgo, jwp, jst, jct, rfd, Bopen, Nat.beq, lv_args, rlk, rs1, rs2, rdl, rky, rcd, rno, rsw, Value.category, List.filter, List.take, List.drop, List.reverse, List.reverseAux, List.cons_append, List.nil_append, Option.toList, Int.toNat, Int.reduceToNat, if_pos, if_neg, reduceIte, ↓reduceIte, Nat.reduceAdd, Nat.reduceEqDiff, Nat.reduceBEq, beq_self_eq_true, Bool.not_true, Bool.not_false, Bool.and_true, Bool.and_false, Bool.true_and, Bool.false_and, gI_sI, gI_sL, gI_sA, gI_sM, gL_sI, gL_sL, gL_sA, gL_sM, aI_sI, aI_sL, aI_sA, aI_sM, aL_sI, aL_sL, aL_sA, aL_sM, Bopen_0, oi_1, Pj_enter]; try dsimp only
    intro p2 q2
    intro p3 q3
    intro p4 q4
    refine ⟨Rj.w (md := 1) (Rj.fm (s := sort) (k := k) hR ⟨fun j hj => (by rw [gI_sI, nb_ne hj]; rfl), rfl, ⟨rfl, rfl⟩, fun j hj => (aI_ne (by omega)).trans ((aI_ne (by omega)).trans ((aI_ne (by omega)).trans rfl)), (vin (m := 80) (j := gI σ 62) (by assumption) (by decide) (by decide)).1, (vin (m := 80) (j := gI σ 62) (by assumption) (by decide) (by decide)).2⟩ ⟨fun j hj => (by rw [gI_sI, nb_ne hj]; rfl), rfl, ⟨rfl, rfl⟩, fun j hj => (aI_ne (by omega)).trans ((aI_ne (by omega)).trans ((aI_ne (by omega)).trans rfl)), (vin (m := 80) (j := gI ρ 62) (by assumption) (by decide) (by decide)).1, (vin (m := 80) (j := gI ρ 62) (by assumption) (by decide) (by decide)).2⟩ hk), fun w5 τ5 w5' τ5' hq5 => ?_⟩
    obtain ⟨b5, rfl, rfl, hb5⟩ := hq5
    rcases hb5 with rfl | ⟨rfl, hr5, hk5, hx5⟩
    · dsimp only [Option.toList, List.cons_append, List.nil_append, Nat.beq, gI_sI, gI_sL, gI_sA, gI_sM, gL_sI, gL_sL, gL_sA, gL_sM, aI_sI, aI_sL, aI_sA, aI_sM, aL_sI, aL_sL, aL_sA, aL_sM]
      unfold Qj_open
      try dsimp only
      exact ⟨_, rfl, rfl, Or.inl rfl⟩
    · dsimp only [Option.toList, List.cons_append, List.nil_append, Nat.beq, gI_sI, gI_sL, gI_sA, gI_sM, gL_sI, gL_sL, gL_sA, gL_sM, aI_sI, aI_sL, aI_sA, aI_sM, aL_sI, aL_sL, aL_sA, aL_sM]
      have hR5 : Rj 1 τ5 τ5' := hr5 _ (Rj.fm (s := sort) (k := k) hR ⟨fun j hj => (by rw [gI_sI, nb_ne hj]; rfl), rfl, ⟨rfl, rfl⟩, fun j hj => (aI_ne (by omega)).trans ((aI_ne (by omega)).trans ((aI_ne (by omega)).trans rfl)), (vin (m := 80) (j := gI σ 62) (by assumption) (by decide) (by decide)).1, (vin (m := 80) (j := gI σ 62) (by assumption) (by decide) (by decide)).2⟩ ⟨fun j hj => (by rw [gI_sI, nb_ne hj]; rfl), rfl, ⟨rfl, rfl⟩, fun j hj => (aI_ne (by omega)).trans ((aI_ne (by omega)).trans ((aI_ne (by omega)).trans rfl)), (vin (m := 80) (j := gI ρ 62) (by assumption) (by decide) (by decide)).1, (vin (m := 80) (j := gI ρ 62) (by assumption) (by decide) (by decide)).2⟩ hk)
      unfold Qj_open
      try dsimp only
      exact ⟨_, rfl, rfl, Or.inr ⟨rfl, by exact hR5⟩⟩
  next => exact hP.elim
def Pj_variable : JPr := fun A1 A2 σ ρ => match A1, A2 with
  | [.int type, .int fixed, .int k], [.int type', .int fixed', .int k'] => Rj 1 σ ρ ∧ aI σ 3 (gI σ 14).toNatClampNeg = 1
  | _, _ => False
def Qj_variable : JQr := fun A1 A2 σ ρ w τ w' τ' => match A1, A2 with
  | [.int type, .int fixed, .int k], [.int type', .int fixed', .int k'] => ∃ b : Int32, w = some (.int b) ∧ w' = some (.int b) ∧ (b = 0 ∨ (b = 1 ∧ Rj 1 τ τ' ∧ Kx σ τ ∧ aI τ' 39 = aI ρ 39))
  | _, _ => False
set_option maxRecDepth 100000 in
set_option maxHeartbeats 4000000 in
theorem j_variable : JMet 40 Pj_variable Qj_variable := by
  refine JMet.by Bvariable [(17, Pj_take, Qj_take), (12, (fun A1 A2 σ ρ => Pu_wrong A1 σ ∧ Pu_wrong A2 ρ), (fun A1 A2 σ ρ w τ w' τ' => Qu_wrong A1 σ w τ ∧ Qu_wrong A2 ρ w' τ'))] rfl (jcc j_take (jcc (JMet.u u_wrong) jc0)) ?_
  intro A1 A2 σ ρ hP K hB hW
  unfold Pj_variable at hP
  split at hP
  next type fixed k type' fixed' k' =>
    obtain ⟨hR, htk⟩ := hP
    intro n0
    refine hB _ _ _ _ _ _ _ _ (fun m1 hm1 => ?_)
    dsimp only [jgo, jwp, jst, jct, rfd, Bvariable, Nat.beq, lv_args, rlk, rs1, rs2, rdl, rky, rcd, rno, rsw, Value.category, List.filter, List.take, List.drop, List.reverse, List.reverseAux, List.cons_append, List.nil_append, Option.toList, Int.toNat, Int.reduceToNat, if_pos, if_neg, reduceIte, ↓reduceIte, Nat.reduceAdd, Nat.reduceEqDiff, Nat.reduceBEq, beq_self_eq_true, Bool.not_true, Bool.not_false, Bool.and_true, Bool.and_false, Bool.true_and, Bool.false_and, gI_sI, gI_sL, gI_sA, gI_sM, gL_sI, gL_sL, gL_sA, gL_sM, aI_sI, aI_sL, aI_sA, aI_sM, aL_sI, aL_sL, aL_sA, aL_sM, Bvariable_0, Bvariable_9, Bvariable_19, Bvariable_75, Bvariable_82, Bvariable_89, Bvariable_95, oi_1, oi_3, oi_60, oi_m2, Pj_take, Pu_wrong]; try dsimp only
    try simp only [hR.e2, hR.e14, hR.e15, hR.e17, hR.e18, hR.e36, hR.e42, hR.e49, hR.e62, hR.a3, hR.a6, hR.a51, hR.a19, hR.a63, hR.a64, hR.hp]
    refine ⟨fun h2 => ⟨(by exact h2), ?_⟩, fun h2 => ⟨(by exact h2), ?_⟩⟩
    · refine hB _ _ _ _ _ _ _ _ (fun m3 hm3 => ?_)
      dsimp only [jgo, jwp, jst, jct, rfd, Bvariable, Nat.beq, lv_args, rlk, rs1, rs2, rdl, rky, rcd, rno, rsw, Value.category, List.filter, List.take, List.drop, List.reverse, List.reverseAux, List.cons_append, List.nil_append, Option.toList, Int.toNat, Int.reduceToNat, if_pos, if_neg, reduceIte, ↓reduceIte, Nat.reduceAdd, Nat.reduceEqDiff, Nat.reduceBEq, beq_self_eq_true, Bool.not_true, Bool.not_false, Bool.and_true, Bool.and_false, Bool.true_and, Bool.false_and, gI_sI, gI_sL, gI_sA, gI_sM, gL_sI, gL_sL, gL_sA, gL_sM, aI_sI, aI_sL, aI_sA, aI_sM, aL_sI, aL_sL, aL_sA, aL_sM, Bvariable_0, Bvariable_9, Bvariable_19, Bvariable_75, Bvariable_82, Bvariable_89, Bvariable_95, oi_1, oi_3, oi_60, oi_m2, Pj_take, Pu_wrong]; try dsimp only
      try simp only [hR.e2, hR.e14, hR.e15, hR.e17, hR.e18, hR.e36, hR.e42, hR.e49, hR.e62, hR.a3, hR.a6, hR.a51, hR.a19, hR.a63, hR.a64, hR.hp]
      intro p4 q4
      try simp only [hR.e2, hR.e14, hR.e15, hR.e17, hR.e18, hR.e36, hR.e42, hR.e49, hR.e62, hR.a3, hR.a6, hR.a51, hR.a19, hR.a63, hR.a64, hR.hp]
      intro p5 q5
      try simp only [hR.e2, hR.e14, hR.e15, hR.e17, hR.e18, hR.e36, hR.e42, hR.e49, hR.e62, hR.a3, hR.a6, hR.a51, hR.a19, hR.a63, hR.a64, hR.hp]
      intro p6 q6
      try simp only [hR.e2, hR.e14, hR.e15, hR.e17, hR.e18, hR.e36, hR.e42, hR.e49, hR.e62, hR.a3, hR.a6, hR.a51, hR.a19, hR.a63, hR.a64, hR.hp]
      refine ⟨fun h7 => ⟨(by exact h7), ?_⟩, fun h7 => ⟨(by exact h7), ?_⟩⟩
      · refine hB _ _ _ _ _ _ _ _ (fun m8 hm8 => ?_)
        dsimp only [jgo, jwp, jst, jct, rfd, Bvariable, Nat.beq, lv_args, rlk, rs1, rs2, rdl, rky, rcd, rno, rsw, Value.category, List.filter, List.take, List.drop, List.reverse, List.reverseAux, List.cons_append, List.nil_append, Option.toList, Int.toNat, Int.reduceToNat, if_pos, if_neg, reduceIte, ↓reduceIte, Nat.reduceAdd, Nat.reduceEqDiff, Nat.reduceBEq, beq_self_eq_true, Bool.not_true, Bool.not_false, Bool.and_true, Bool.and_false, Bool.true_and, Bool.false_and, gI_sI, gI_sL, gI_sA, gI_sM, gL_sI, gL_sL, gL_sA, gL_sM, aI_sI, aI_sL, aI_sA, aI_sM, aL_sI, aL_sL, aL_sA, aL_sM, Bvariable_0, Bvariable_9, Bvariable_19, Bvariable_75, Bvariable_82, Bvariable_89, Bvariable_95, oi_1, oi_3, oi_60, oi_m2, Pj_take, Pu_wrong]; try dsimp only
        try simp only [hR.e2, hR.e14, hR.e15, hR.e17, hR.e18, hR.e36, hR.e42, hR.e49, hR.e62, hR.a3, hR.a6, hR.a51, hR.a19, hR.a63, hR.a64, hR.hp]
        refine hB _ _ _ _ _ _ _ _ (fun m9 hm9 => ?_)
        dsimp only [jgo, jwp, jst, jct, rfd, Bvariable, Nat.beq, lv_args, rlk, rs1, rs2, rdl, rky, rcd, rno, rsw, Value.category, List.filter, List.take, List.drop, List.reverse, List.reverseAux, List.cons_append, List.nil_append, Option.toList, Int.toNat, Int.reduceToNat, if_pos, if_neg, reduceIte, ↓reduceIte, Nat.reduceAdd, Nat.reduceEqDiff, Nat.reduceBEq, beq_self_eq_true, Bool.not_true, Bool.not_false, Bool.and_true, Bool.and_false, Bool.true_and, Bool.false_and, gI_sI, gI_sL, gI_sA, gI_sM, gL_sI, gL_sL, gL_sA, gL_sM, aI_sI, aI_sL, aI_sA, aI_sM, aL_sI, aL_sL, aL_sA, aL_sM, Bvariable_0, Bvariable_9, Bvariable_19, Bvariable_75, Bvariable_82, Bvariable_89, Bvariable_95, oi_1, oi_3, oi_60, oi_m2, Pj_take, Pu_wrong]; try dsimp only
        try simp only [hR.e2, hR.e14, hR.e15, hR.e17, hR.e18, hR.e36, hR.e42, hR.e49, hR.e62, hR.a3, hR.a6, hR.a51, hR.a19, hR.a63, hR.a64, hR.hp]
        intro p10 q10
        try simp only [hR.e2, hR.e14, hR.e15, hR.e17, hR.e18, hR.e36, hR.e42, hR.e49, hR.e62, hR.a3, hR.a6, hR.a51, hR.a19, hR.a63, hR.a64, hR.hp]
        intro p11 q11
        try simp only [hR.e2, hR.e14, hR.e15, hR.e17, hR.e18, hR.e36, hR.e42, hR.e49, hR.e62, hR.a3, hR.a6, hR.a51, hR.a19, hR.a63, hR.a64, hR.hp]
        intro p12 q12
        try simp only [hR.e2, hR.e14, hR.e15, hR.e17, hR.e18, hR.e36, hR.e42, hR.e49, hR.e62, hR.a3, hR.a6, hR.a51, hR.a19, hR.a63, hR.a64, hR.hp]
        refine ⟨⟨(Rj.w (md := 1) (by (repeat (first | exact hR | refine Rj.i ?_ rfl | refine Rj.a ?_ rfl | refine Rj.m ?_ | refine Rj.s ?_ (by decide) | refine Rj.o1 ?_ (by first | lia | (dsimp only [Nat.beq, gI_sI, gI_sL, gI_sA, gI_sM, gL_sI, gL_sL, gL_sA, gL_sM, aI_sI, aI_sL, aI_sA, aI_sM, aL_sI, aL_sL, aL_sA, aL_sM]; lia)) | refine Rj.o2 ?_ | refine Rj.f1 ?_ (by first | lia | (dsimp only [Nat.beq, gI_sI, gI_sL, gI_sA, gI_sM, gL_sI, gL_sL, gL_sA, gL_sM, aI_sI, aI_sL, aI_sA, aI_sM, aL_sI, aL_sL, aL_sA, aL_sM]; lia)) | refine Rj.f2 ?_ | refine Rj.fs ?_)))), by lia, by lia⟩, fun w13 τ13 w13' τ13' hq13 => ?_⟩
        obtain ⟨b13, rfl, rfl, hb13⟩ := hq13
        rcases hb13 with rfl | ⟨rfl, hr13, hk13, hx13⟩
        · dsimp only [Option.toList, List.cons_append, List.nil_append, Nat.beq, gI_sI, gI_sL, gI_sA, gI_sM, gL_sI, gL_sL, gL_sA, gL_sM, aI_sI, aI_sL, aI_sA, aI_sM, aL_sI, aL_sL, aL_sA, aL_sM]
          try simp only [hR.e2, hR.e14, hR.e15, hR.e17, hR.e18, hR.e36, hR.e42, hR.e49, hR.e62, hR.a3, hR.a6, hR.a51, hR.a19, hR.a63, hR.a64, hR.hp]
          unfold Qj_variable
          try dsimp only
          exact ⟨_, rfl, rfl, Or.inl rfl⟩
        · dsimp only [Option.toList, List.cons_append, List.nil_append, Nat.beq, gI_sI, gI_sL, gI_sA, gI_sM, gL_sI, gL_sL, gL_sA, gL_sM, aI_sI, aI_sL, aI_sA, aI_sM, aL_sI, aL_sL, aL_sA, aL_sM]
          have hR13 : Rj 1 τ13 τ13' := hr13 _ (by (repeat (first | exact hR | refine Rj.i ?_ rfl | refine Rj.a ?_ rfl | refine Rj.m ?_ | refine Rj.s ?_ (by decide) | refine Rj.o1 ?_ (by first | lia | (dsimp only [Nat.beq, gI_sI, gI_sL, gI_sA, gI_sM, gL_sI, gL_sL, gL_sA, gL_sM, aI_sI, aI_sL, aI_sA, aI_sM, aL_sI, aL_sL, aL_sA, aL_sM]; lia)) | refine Rj.o2 ?_ | refine Rj.f1 ?_ (by first | lia | (dsimp only [Nat.beq, gI_sI, gI_sL, gI_sA, gI_sM, gL_sI, gL_sL, gL_sA, gL_sM, aI_sI, aI_sL, aI_sA, aI_sM, aL_sI, aL_sL, aL_sA, aL_sM]; lia)) | refine Rj.f2 ?_ | refine Rj.fs ?_)))
          have ht13 := hk13.2 3 rfl
          have hc13 := hk13.1 2 rfl
          try dsimp only [Nat.beq, gI_sI, gI_sL, gI_sA, gI_sM, gL_sI, gL_sL, gL_sA, gL_sM, aI_sI, aI_sL, aI_sA, aI_sM, aL_sI, aL_sL, aL_sA, aL_sM] at hx13
          try dsimp only [Nat.beq, gI_sI, gI_sL, gI_sA, gI_sM, gL_sI, gL_sL, gL_sA, gL_sM, aI_sI, aI_sL, aI_sA, aI_sM, aL_sI, aL_sL, aL_sA, aL_sM] at ht13
          try dsimp only [Nat.beq, gI_sI, gI_sL, gI_sA, gI_sM, gL_sI, gL_sL, gL_sA, gL_sM, aI_sI, aI_sL, aI_sA, aI_sM, aL_sI, aL_sL, aL_sA, aL_sM] at hc13
          have hh13 := hk13.1 62 rfl
          have hg13 := hk13.1 49 rfl
          try dsimp only [Nat.beq, gI_sI, gI_sL, gI_sA, gI_sM, gL_sI, gL_sL, gL_sA, gL_sM, aI_sI, aI_sL, aI_sA, aI_sM, aL_sI, aL_sL, aL_sA, aL_sM] at hh13
          try dsimp only [Nat.beq, gI_sI, gI_sL, gI_sA, gI_sM, gL_sI, gL_sL, gL_sA, gL_sM, aI_sI, aI_sL, aI_sA, aI_sM, aL_sI, aL_sL, aL_sA, aL_sM] at hg13
          have hz13 := congrFun ht13 (gI τ13 14).toNatClampNeg
          try simp only [hR13.e2, hR13.e14, hR13.e15, hR13.e17, hR13.e18, hR13.e36, hR13.e42, hR13.e49, hR13.e62, hR13.a3, hR13.a6, hR13.a51, hR13.a19, hR13.a63, hR13.a64, hR13.hp]
          unfold Qj_variable
          try dsimp only
          exact ⟨_, rfl, rfl, Or.inr ⟨rfl, by (repeat (first | exact hR13 | refine Rj.i ?_ rfl | refine Rj.a ?_ rfl | refine Rj.m ?_ | refine Rj.s ?_ (by decide) | refine Rj.o1 ?_ (by first | lia | (dsimp only [Nat.beq, gI_sI, gI_sL, gI_sA, gI_sM, gL_sI, gL_sL, gL_sA, gL_sM, aI_sI, aI_sL, aI_sA, aI_sM, aL_sI, aL_sL, aL_sA, aL_sM]; lia)) | refine Rj.o2 ?_ | refine Rj.f1 ?_ (by first | lia | (dsimp only [Nat.beq, gI_sI, gI_sL, gI_sA, gI_sM, gL_sI, gL_sL, gL_sA, gL_sM, aI_sI, aI_sL, aI_sA, aI_sM, aL_sI, aL_sL, aL_sA, aL_sM]; lia)) | refine Rj.f2 ?_ | refine Rj.fs ?_)), by (repeat (first | exact Kx.rf | refine Kx.i ?_ rfl | refine Kx.a ?_ rfl | refine Kx.m ?_ | refine Kx.tr ?_ hk13)), hx13.2.1⟩⟩
      · refine hB _ _ _ _ _ _ _ _ (fun m14 hm14 => ?_)
        dsimp only [jgo, jwp, jst, jct, rfd, Bvariable, Nat.beq, lv_args, rlk, rs1, rs2, rdl, rky, rcd, rno, rsw, Value.category, List.filter, List.take, List.drop, List.reverse, List.reverseAux, List.cons_append, List.nil_append, Option.toList, Int.toNat, Int.reduceToNat, if_pos, if_neg, reduceIte, ↓reduceIte, Nat.reduceAdd, Nat.reduceEqDiff, Nat.reduceBEq, beq_self_eq_true, Bool.not_true, Bool.not_false, Bool.and_true, Bool.and_false, Bool.true_and, Bool.false_and, gI_sI, gI_sL, gI_sA, gI_sM, gL_sI, gL_sL, gL_sA, gL_sM, aI_sI, aI_sL, aI_sA, aI_sM, aL_sI, aL_sL, aL_sA, aL_sM, Bvariable_0, Bvariable_9, Bvariable_19, Bvariable_75, Bvariable_82, Bvariable_89, Bvariable_95, oi_1, oi_3, oi_60, oi_m2, Pj_take, Pu_wrong]; try dsimp only
        try simp only [hR.e2, hR.e14, hR.e15, hR.e17, hR.e18, hR.e36, hR.e42, hR.e49, hR.e62, hR.a3, hR.a6, hR.a51, hR.a19, hR.a63, hR.a64, hR.hp]
        refine ⟨fun h15 => ⟨(by exact h15), ?_⟩, fun h15 => ⟨(by exact h15), ?_⟩⟩
        · refine hB _ _ _ _ _ _ _ _ (fun m16 hm16 => ?_)
          dsimp only [jgo, jwp, jst, jct, rfd, Bvariable, Nat.beq, lv_args, rlk, rs1, rs2, rdl, rky, rcd, rno, rsw, Value.category, List.filter, List.take, List.drop, List.reverse, List.reverseAux, List.cons_append, List.nil_append, Option.toList, Int.toNat, Int.reduceToNat, if_pos, if_neg, reduceIte, ↓reduceIte, Nat.reduceAdd, Nat.reduceEqDiff, Nat.reduceBEq, beq_self_eq_true, Bool.not_true, Bool.not_false, Bool.and_true, Bool.and_false, Bool.true_and, Bool.false_and, gI_sI, gI_sL, gI_sA, gI_sM, gL_sI, gL_sL, gL_sA, gL_sM, aI_sI, aI_sL, aI_sA, aI_sM, aL_sI, aL_sL, aL_sA, aL_sM, Bvariable_0, Bvariable_9, Bvariable_19, Bvariable_75, Bvariable_82, Bvariable_89, Bvariable_95, oi_1, oi_3, oi_60, oi_m2, Pj_take, Pu_wrong]; try dsimp only
          try simp only [hR.e2, hR.e14, hR.e15, hR.e17, hR.e18, hR.e36, hR.e42, hR.e49, hR.e62, hR.a3, hR.a6, hR.a51, hR.a19, hR.a63, hR.a64, hR.hp]
          refine hB _ _ _ _ _ _ _ _ (fun m17 hm17 => ?_)
          dsimp only [jgo, jwp, jst, jct, rfd, Bvariable, Nat.beq, lv_args, rlk, rs1, rs2, rdl, rky, rcd, rno, rsw, Value.category, List.filter, List.take, List.drop, List.reverse, List.reverseAux, List.cons_append, List.nil_append, Option.toList, Int.toNat, Int.reduceToNat, if_pos, if_neg, reduceIte, ↓reduceIte, Nat.reduceAdd, Nat.reduceEqDiff, Nat.reduceBEq, beq_self_eq_true, Bool.not_true, Bool.not_false, Bool.and_true, Bool.and_false, Bool.true_and, Bool.false_and, gI_sI, gI_sL, gI_sA, gI_sM, gL_sI, gL_sL, gL_sA, gL_sM, aI_sI, aI_sL, aI_sA, aI_sM, aL_sI, aL_sL, aL_sA, aL_sM, Bvariable_0, Bvariable_9, Bvariable_19, Bvariable_75, Bvariable_82, Bvariable_89, Bvariable_95, oi_1, oi_3, oi_60, oi_m2, Pj_take, Pu_wrong]; try dsimp only
          try simp only [hR.e2, hR.e14, hR.e15, hR.e17, hR.e18, hR.e36, hR.e42, hR.e49, hR.e62, hR.a3, hR.a6, hR.a51, hR.a19, hR.a63, hR.a64, hR.hp]
          intro p18 q18
          try simp only [hR.e2, hR.e14, hR.e15, hR.e17, hR.e18, hR.e36, hR.e42, hR.e49, hR.e62, hR.a3, hR.a6, hR.a51, hR.a19, hR.a63, hR.a64, hR.hp]
          intro p19 q19
          try simp only [hR.e2, hR.e14, hR.e15, hR.e17, hR.e18, hR.e36, hR.e42, hR.e49, hR.e62, hR.a3, hR.a6, hR.a51, hR.a19, hR.a63, hR.a64, hR.hp]
          intro p20 q20
          try simp only [hR.e2, hR.e14, hR.e15, hR.e17, hR.e18, hR.e36, hR.e42, hR.e49, hR.e62, hR.a3, hR.a6, hR.a51, hR.a19, hR.a63, hR.a64, hR.hp]
          refine ⟨⟨(Rj.w (md := 1) (by (repeat (first | exact hR | refine Rj.i ?_ rfl | refine Rj.a ?_ rfl | refine Rj.m ?_ | refine Rj.s ?_ (by decide) | refine Rj.o1 ?_ (by first | lia | (dsimp only [Nat.beq, gI_sI, gI_sL, gI_sA, gI_sM, gL_sI, gL_sL, gL_sA, gL_sM, aI_sI, aI_sL, aI_sA, aI_sM, aL_sI, aL_sL, aL_sA, aL_sM]; lia)) | refine Rj.o2 ?_ | refine Rj.f1 ?_ (by first | lia | (dsimp only [Nat.beq, gI_sI, gI_sL, gI_sA, gI_sM, gL_sI, gL_sL, gL_sA, gL_sM, aI_sI, aI_sL, aI_sA, aI_sM, aL_sI, aL_sL, aL_sA, aL_sM]; lia)) | refine Rj.f2 ?_ | refine Rj.fs ?_)))), by lia, by lia⟩, fun w21 τ21 w21' τ21' hq21 => ?_⟩
          obtain ⟨b21, rfl, rfl, hb21⟩ := hq21
          rcases hb21 with rfl | ⟨rfl, hr21, hk21, hx21⟩
          · dsimp only [Option.toList, List.cons_append, List.nil_append, Nat.beq, gI_sI, gI_sL, gI_sA, gI_sM, gL_sI, gL_sL, gL_sA, gL_sM, aI_sI, aI_sL, aI_sA, aI_sM, aL_sI, aL_sL, aL_sA, aL_sM]
            try simp only [hR.e2, hR.e14, hR.e15, hR.e17, hR.e18, hR.e36, hR.e42, hR.e49, hR.e62, hR.a3, hR.a6, hR.a51, hR.a19, hR.a63, hR.a64, hR.hp]
            unfold Qj_variable
            try dsimp only
            exact ⟨_, rfl, rfl, Or.inl rfl⟩
          · dsimp only [Option.toList, List.cons_append, List.nil_append, Nat.beq, gI_sI, gI_sL, gI_sA, gI_sM, gL_sI, gL_sL, gL_sA, gL_sM, aI_sI, aI_sL, aI_sA, aI_sM, aL_sI, aL_sL, aL_sA, aL_sM]
            have hR21 : Rj 1 τ21 τ21' := hr21 _ (by (repeat (first | exact hR | refine Rj.i ?_ rfl | refine Rj.a ?_ rfl | refine Rj.m ?_ | refine Rj.s ?_ (by decide) | refine Rj.o1 ?_ (by first | lia | (dsimp only [Nat.beq, gI_sI, gI_sL, gI_sA, gI_sM, gL_sI, gL_sL, gL_sA, gL_sM, aI_sI, aI_sL, aI_sA, aI_sM, aL_sI, aL_sL, aL_sA, aL_sM]; lia)) | refine Rj.o2 ?_ | refine Rj.f1 ?_ (by first | lia | (dsimp only [Nat.beq, gI_sI, gI_sL, gI_sA, gI_sM, gL_sI, gL_sL, gL_sA, gL_sM, aI_sI, aI_sL, aI_sA, aI_sM, aL_sI, aL_sL, aL_sA, aL_sM]; lia)) | refine Rj.f2 ?_ | refine Rj.fs ?_)))
            have ht21 := hk21.2 3 rfl
            have hc21 := hk21.1 2 rfl
            try dsimp only [Nat.beq, gI_sI, gI_sL, gI_sA, gI_sM, gL_sI, gL_sL, gL_sA, gL_sM, aI_sI, aI_sL, aI_sA, aI_sM, aL_sI, aL_sL, aL_sA, aL_sM] at hx21
            try dsimp only [Nat.beq, gI_sI, gI_sL, gI_sA, gI_sM, gL_sI, gL_sL, gL_sA, gL_sM, aI_sI, aI_sL, aI_sA, aI_sM, aL_sI, aL_sL, aL_sA, aL_sM] at ht21
            try dsimp only [Nat.beq, gI_sI, gI_sL, gI_sA, gI_sM, gL_sI, gL_sL, gL_sA, gL_sM, aI_sI, aI_sL, aI_sA, aI_sM, aL_sI, aL_sL, aL_sA, aL_sM] at hc21
            have hh21 := hk21.1 62 rfl
            have hg21 := hk21.1 49 rfl
            try dsimp only [Nat.beq, gI_sI, gI_sL, gI_sA, gI_sM, gL_sI, gL_sL, gL_sA, gL_sM, aI_sI, aI_sL, aI_sA, aI_sM, aL_sI, aL_sL, aL_sA, aL_sM] at hh21
            try dsimp only [Nat.beq, gI_sI, gI_sL, gI_sA, gI_sM, gL_sI, gL_sL, gL_sA, gL_sM, aI_sI, aI_sL, aI_sA, aI_sM, aL_sI, aL_sL, aL_sA, aL_sM] at hg21
            have hz21 := congrFun ht21 (gI τ21 14).toNatClampNeg
            try simp only [hR21.e2, hR21.e14, hR21.e15, hR21.e17, hR21.e18, hR21.e36, hR21.e42, hR21.e49, hR21.e62, hR21.a3, hR21.a6, hR21.a51, hR21.a19, hR21.a63, hR21.a64, hR21.hp]
            unfold Qj_variable
            try dsimp only
            exact ⟨_, rfl, rfl, Or.inr ⟨rfl, by (repeat (first | exact hR21 | refine Rj.i ?_ rfl | refine Rj.a ?_ rfl | refine Rj.m ?_ | refine Rj.s ?_ (by decide) | refine Rj.o1 ?_ (by first | lia | (dsimp only [Nat.beq, gI_sI, gI_sL, gI_sA, gI_sM, gL_sI, gL_sL, gL_sA, gL_sM, aI_sI, aI_sL, aI_sA, aI_sM, aL_sI, aL_sL, aL_sA, aL_sM]; lia)) | refine Rj.o2 ?_ | refine Rj.f1 ?_ (by first | lia | (dsimp only [Nat.beq, gI_sI, gI_sL, gI_sA, gI_sM, gL_sI, gL_sL, gL_sA, gL_sM, aI_sI, aI_sL, aI_sA, aI_sM, aL_sI, aL_sL, aL_sA, aL_sM]; lia)) | refine Rj.f2 ?_ | refine Rj.fs ?_)), by (repeat (first | exact Kx.rf | refine Kx.i ?_ rfl | refine Kx.a ?_ rfl | refine Kx.m ?_ | refine Kx.tr ?_ hk21)), hx21.2.1⟩⟩
        · refine hB _ _ _ _ _ _ _ _ (fun m22 hm22 => ?_)
          dsimp only [jgo, jwp, jst, jct, rfd, Bvariable, Nat.beq, lv_args, rlk, rs1, rs2, rdl, rky, rcd, rno, rsw, Value.category, List.filter, List.take, List.drop, List.reverse, List.reverseAux, List.cons_append, List.nil_append, Option.toList, Int.toNat, Int.reduceToNat, if_pos, if_neg, reduceIte, ↓reduceIte, Nat.reduceAdd, Nat.reduceEqDiff, Nat.reduceBEq, beq_self_eq_true, Bool.not_true, Bool.not_false, Bool.and_true, Bool.and_false, Bool.true_and, Bool.false_and, gI_sI, gI_sL, gI_sA, gI_sM, gL_sI, gL_sL, gL_sA, gL_sM, aI_sI, aI_sL, aI_sA, aI_sM, aL_sI, aL_sL, aL_sA, aL_sM, Bvariable_0, Bvariable_9, Bvariable_19, Bvariable_75, Bvariable_82, Bvariable_89, Bvariable_95, oi_1, oi_3, oi_60, oi_m2, Pj_take, Pu_wrong]; try dsimp only
          try simp only [hR.e2, hR.e14, hR.e15, hR.e17, hR.e18, hR.e36, hR.e42, hR.e49, hR.e62, hR.a3, hR.a6, hR.a51, hR.a19, hR.a63, hR.a64, hR.hp]
          refine hB _ _ _ _ _ _ _ _ (fun m23 hm23 => ?_)
          dsimp only [jgo, jwp, jst, jct, rfd, Bvariable, Nat.beq, lv_args, rlk, rs1, rs2, rdl, rky, rcd, rno, rsw, Value.category, List.filter, List.take, List.drop, List.reverse, List.reverseAux, List.cons_append, List.nil_append, Option.toList, Int.toNat, Int.reduceToNat, if_pos, if_neg, reduceIte, ↓reduceIte, Nat.reduceAdd, Nat.reduceEqDiff, Nat.reduceBEq, beq_self_eq_true, Bool.not_true, Bool.not_false, Bool.and_true, Bool.and_false, Bool.true_and, Bool.false_and, gI_sI, gI_sL, gI_sA, gI_sM, gL_sI, gL_sL, gL_sA, gL_sM, aI_sI, aI_sL, aI_sA, aI_sM, aL_sI, aL_sL, aL_sA, aL_sM, Bvariable_0, Bvariable_9, Bvariable_19, Bvariable_75, Bvariable_82, Bvariable_89, Bvariable_95, oi_1, oi_3, oi_60, oi_m2, Pj_take, Pu_wrong]; try dsimp only
          try simp only [hR.e2, hR.e14, hR.e15, hR.e17, hR.e18, hR.e36, hR.e42, hR.e49, hR.e62, hR.a3, hR.a6, hR.a51, hR.a19, hR.a63, hR.a64, hR.hp]
          intro p24 q24
          try simp only [hR.e2, hR.e14, hR.e15, hR.e17, hR.e18, hR.e36, hR.e42, hR.e49, hR.e62, hR.a3, hR.a6, hR.a51, hR.a19, hR.a63, hR.a64, hR.hp]
          intro p25 q25
          try simp only [hR.e2, hR.e14, hR.e15, hR.e17, hR.e18, hR.e36, hR.e42, hR.e49, hR.e62, hR.a3, hR.a6, hR.a51, hR.a19, hR.a63, hR.a64, hR.hp]
          intro p26 q26
          try simp only [hR.e2, hR.e14, hR.e15, hR.e17, hR.e18, hR.e36, hR.e42, hR.e49, hR.e62, hR.a3, hR.a6, hR.a51, hR.a19, hR.a63, hR.a64, hR.hp]
          refine ⟨⟨(Rj.w (md := 1) (by (repeat (first | exact hR | refine Rj.i ?_ rfl | refine Rj.a ?_ rfl | refine Rj.m ?_ | refine Rj.s ?_ (by decide) | refine Rj.o1 ?_ (by first | lia | (dsimp only [Nat.beq, gI_sI, gI_sL, gI_sA, gI_sM, gL_sI, gL_sL, gL_sA, gL_sM, aI_sI, aI_sL, aI_sA, aI_sM, aL_sI, aL_sL, aL_sA, aL_sM]; lia)) | refine Rj.o2 ?_ | refine Rj.f1 ?_ (by first | lia | (dsimp only [Nat.beq, gI_sI, gI_sL, gI_sA, gI_sM, gL_sI, gL_sL, gL_sA, gL_sM, aI_sI, aI_sL, aI_sA, aI_sM, aL_sI, aL_sL, aL_sA, aL_sM]; lia)) | refine Rj.f2 ?_ | refine Rj.fs ?_)))), by lia, by lia⟩, fun w27 τ27 w27' τ27' hq27 => ?_⟩
          obtain ⟨b27, rfl, rfl, hb27⟩ := hq27
          rcases hb27 with rfl | ⟨rfl, hr27, hk27, hx27⟩
          · dsimp only [Option.toList, List.cons_append, List.nil_append, Nat.beq, gI_sI, gI_sL, gI_sA, gI_sM, gL_sI, gL_sL, gL_sA, gL_sM, aI_sI, aI_sL, aI_sA, aI_sM, aL_sI, aL_sL, aL_sA, aL_sM]
            try simp only [hR.e2, hR.e14, hR.e15, hR.e17, hR.e18, hR.e36, hR.e42, hR.e49, hR.e62, hR.a3, hR.a6, hR.a51, hR.a19, hR.a63, hR.a64, hR.hp]
            unfold Qj_variable
            try dsimp only
            exact ⟨_, rfl, rfl, Or.inl rfl⟩
          · dsimp only [Option.toList, List.cons_append, List.nil_append, Nat.beq, gI_sI, gI_sL, gI_sA, gI_sM, gL_sI, gL_sL, gL_sA, gL_sM, aI_sI, aI_sL, aI_sA, aI_sM, aL_sI, aL_sL, aL_sA, aL_sM]
            have hR27 : Rj 1 τ27 τ27' := hr27 _ (by (repeat (first | exact hR | refine Rj.i ?_ rfl | refine Rj.a ?_ rfl | refine Rj.m ?_ | refine Rj.s ?_ (by decide) | refine Rj.o1 ?_ (by first | lia | (dsimp only [Nat.beq, gI_sI, gI_sL, gI_sA, gI_sM, gL_sI, gL_sL, gL_sA, gL_sM, aI_sI, aI_sL, aI_sA, aI_sM, aL_sI, aL_sL, aL_sA, aL_sM]; lia)) | refine Rj.o2 ?_ | refine Rj.f1 ?_ (by first | lia | (dsimp only [Nat.beq, gI_sI, gI_sL, gI_sA, gI_sM, gL_sI, gL_sL, gL_sA, gL_sM, aI_sI, aI_sL, aI_sA, aI_sM, aL_sI, aL_sL, aL_sA, aL_sM]; lia)) | refine Rj.f2 ?_ | refine Rj.fs ?_)))
            have ht27 := hk27.2 3 rfl
            have hc27 := hk27.1 2 rfl
            try dsimp only [Nat.beq, gI_sI, gI_sL, gI_sA, gI_sM, gL_sI, gL_sL, gL_sA, gL_sM, aI_sI, aI_sL, aI_sA, aI_sM, aL_sI, aL_sL, aL_sA, aL_sM] at hx27
            try dsimp only [Nat.beq, gI_sI, gI_sL, gI_sA, gI_sM, gL_sI, gL_sL, gL_sA, gL_sM, aI_sI, aI_sL, aI_sA, aI_sM, aL_sI, aL_sL, aL_sA, aL_sM] at ht27
            try dsimp only [Nat.beq, gI_sI, gI_sL, gI_sA, gI_sM, gL_sI, gL_sL, gL_sA, gL_sM, aI_sI, aI_sL, aI_sA, aI_sM, aL_sI, aL_sL, aL_sA, aL_sM] at hc27
            have hh27 := hk27.1 62 rfl
            have hg27 := hk27.1 49 rfl
            try dsimp only [Nat.beq, gI_sI, gI_sL, gI_sA, gI_sM, gL_sI, gL_sL, gL_sA, gL_sM, aI_sI, aI_sL, aI_sA, aI_sM, aL_sI, aL_sL, aL_sA, aL_sM] at hh27
            try dsimp only [Nat.beq, gI_sI, gI_sL, gI_sA, gI_sM, gL_sI, gL_sL, gL_sA, gL_sM, aI_sI, aI_sL, aI_sA, aI_sM, aL_sI, aL_sL, aL_sA, aL_sM] at hg27
            have hz27 := congrFun ht27 (gI τ27 14).toNatClampNeg
            try simp only [hR27.e2, hR27.e14, hR27.e15, hR27.e17, hR27.e18, hR27.e36, hR27.e42, hR27.e49, hR27.e62, hR27.a3, hR27.a6, hR27.a51, hR27.a19, hR27.a63, hR27.a64, hR27.hp]
            unfold Qj_variable
            try dsimp only
            exact ⟨_, rfl, rfl, Or.inr ⟨rfl, by (repeat (first | exact hR27 | refine Rj.i ?_ rfl | refine Rj.a ?_ rfl | refine Rj.m ?_ | refine Rj.s ?_ (by decide) | refine Rj.o1 ?_ (by first | lia | (dsimp only [Nat.beq, gI_sI, gI_sL, gI_sA, gI_sM, gL_sI, gL_sL, gL_sA, gL_sM, aI_sI, aI_sL, aI_sA, aI_sM, aL_sI, aL_sL, aL_sA, aL_sM]; lia)) | refine Rj.o2 ?_ | refine Rj.f1 ?_ (by first | lia | (dsimp only [Nat.beq, gI_sI, gI_sL, gI_sA, gI_sM, gL_sI, gL_sL, gL_sA, gL_sM, aI_sI, aI_sL, aI_sA, aI_sM, aL_sI, aL_sL, aL_sA, aL_sM]; lia)) | refine Rj.f2 ?_ | refine Rj.fs ?_)), by (repeat (first | exact Kx.rf | refine Kx.i ?_ rfl | refine Kx.a ?_ rfl | refine Kx.m ?_ | refine Kx.tr ?_ hk27)), hx27.2.1⟩⟩
    · refine hB _ _ _ _ _ _ _ _ (fun m28 hm28 => ?_)
      dsimp only [jgo, jwp, jst, jct, rfd, Bvariable, Nat.beq, lv_args, rlk, rs1, rs2, rdl, rky, rcd, rno, rsw, Value.category, List.filter, List.take, List.drop, List.reverse, List.reverseAux, List.cons_append, List.nil_append, Option.toList, Int.toNat, Int.reduceToNat, if_pos, if_neg, reduceIte, ↓reduceIte, Nat.reduceAdd, Nat.reduceEqDiff, Nat.reduceBEq, beq_self_eq_true, Bool.not_true, Bool.not_false, Bool.and_true, Bool.and_false, Bool.true_and, Bool.false_and, gI_sI, gI_sL, gI_sA, gI_sM, gL_sI, gL_sL, gL_sA, gL_sM, aI_sI, aI_sL, aI_sA, aI_sM, aL_sI, aL_sL, aL_sA, aL_sM, Bvariable_0, Bvariable_9, Bvariable_19, Bvariable_75, Bvariable_82, Bvariable_89, Bvariable_95, oi_1, oi_3, oi_60, oi_m2, Pj_take, Pu_wrong]; try dsimp only
      try simp only [hR.e2, hR.e14, hR.e15, hR.e17, hR.e18, hR.e36, hR.e42, hR.e49, hR.e62, hR.a3, hR.a6, hR.a51, hR.a19, hR.a63, hR.a64, hR.hp]
      refine ⟨⟨trivial, trivial⟩, fun w29 τ29 w29' τ29' hq29 => ?_⟩
      obtain ⟨rfl, rfl⟩ := hq29
      dsimp only [Option.toList, List.cons_append, List.nil_append, Nat.beq, gI_sI, gI_sL, gI_sA, gI_sM, gL_sI, gL_sL, gL_sA, gL_sM, aI_sI, aI_sL, aI_sA, aI_sM, aL_sI, aL_sL, aL_sA, aL_sM]
      try simp only [hR.e2, hR.e14, hR.e15, hR.e17, hR.e18, hR.e36, hR.e42, hR.e49, hR.e62, hR.a3, hR.a6, hR.a51, hR.a19, hR.a63, hR.a64, hR.hp]
      unfold Qj_variable
      try dsimp only
      exact ⟨_, rfl, rfl, Or.inl rfl⟩
  next => exact hP.elim
def Pj_grouped : JPr := fun A1 A2 σ ρ => match A1, A2 with
  | [], [] => Rj 1 σ ρ ∧ 0 < gI σ 62
  | _, _ => False
def Qj_grouped : JQr := fun A1 A2 σ ρ w τ w' τ' => match A1, A2 with
  | [], [] => ∃ b : Int32, w = some (.int b) ∧ w' = some (.int b) ∧ σ = τ ∧ ρ = τ' ∧ (b = 0 ∨ (b = 1 ∧ True))
  | _, _ => False
set_option maxRecDepth 100000 in
set_option maxHeartbeats 4000000 in
theorem j_grouped : JMet 45 Pj_grouped Qj_grouped := by
  refine JMet.by Bgrouped [] rfl jc0 ?_
  intro A1 A2 σ ρ hP K hB hW
  unfold Pj_grouped at hP
  split at hP
  next =>
    obtain ⟨hR, h62⟩ := hP
    have ho := lt_pred h62
    have hk0 := hR.t64 ho
    have loop : ∀ (n : Nat) (so c : Int32), (so = 0 ∨ (so = 1 ∧ True)) → K n 21 [(0, .ref 1000), (1, .int (aI σ 64 (gI σ 62 - 1).toNatClampNeg)), (2, .int so), (3, .int c)] [(0, .ref 1000), (1, .int (aI σ 64 (gI σ 62 - 1).toNatClampNeg)), (2, .int so), (3, .int c)] [] [] σ ρ := by
      intro n
      induction n using Nat.strongRecOn with
      | ind n loop =>
        intro so c hso
        refine hB _ _ _ _ _ _ _ _ (fun m1 hm1 => ?_)
        dsimp only [jgo, jwp, jst, jct, rfd, Bgrouped, Nat.beq, lv_args, rlk, rs1, rs2, rdl, rky, rcd, rno, rsw, Value.category, List.filter, List.take, List.drop, List.reverse, List.reverseAux, List.cons_append, List.nil_append, Option.toList, Int.toNat, Int.reduceToNat, if_pos, if_neg, reduceIte, ↓reduceIte, Nat.reduceAdd, Nat.reduceEqDiff, Nat.reduceBEq, beq_self_eq_true, Bool.not_true, Bool.not_false, Bool.and_true, Bool.and_false, Bool.true_and, Bool.false_and, gI_sI, gI_sL, gI_sA, gI_sM, gL_sI, gL_sL, gL_sA, gL_sM, aI_sI, aI_sL, aI_sA, aI_sM, aL_sI, aL_sL, aL_sA, aL_sM, Bgrouped_0, Bgrouped_21, Bgrouped_29, Bgrouped_33, Bgrouped_44, Bgrouped_55, Bgrouped_65, Bgrouped_69, Bgrouped_70, Bgrouped_77, oi_0, oi_1, oi_38, oi_39]; try dsimp only
        try simp only [hR.e2, hR.e14, hR.e15, hR.e17, hR.e18, hR.e36, hR.e42, hR.e49, hR.e62, hR.a3, hR.a6, hR.a51, hR.a19, hR.a63, hR.a64, hR.hp]
        refine ⟨fun h2 => ⟨(by exact h2), ?_⟩, fun h2 => ⟨(by exact h2), ?_⟩⟩
        · refine hB _ _ _ _ _ _ _ _ (fun m3 hm3 => ?_)
          dsimp only [jgo, jwp, jst, jct, rfd, Bgrouped, Nat.beq, lv_args, rlk, rs1, rs2, rdl, rky, rcd, rno, rsw, Value.category, List.filter, List.take, List.drop, List.reverse, List.reverseAux, List.cons_append, List.nil_append, Option.toList, Int.toNat, Int.reduceToNat, if_pos, if_neg, reduceIte, ↓reduceIte, Nat.reduceAdd, Nat.reduceEqDiff, Nat.reduceBEq, beq_self_eq_true, Bool.not_true, Bool.not_false, Bool.and_true, Bool.and_false, Bool.true_and, Bool.false_and, gI_sI, gI_sL, gI_sA, gI_sM, gL_sI, gL_sL, gL_sA, gL_sM, aI_sI, aI_sL, aI_sA, aI_sM, aL_sI, aL_sL, aL_sA, aL_sM, Bgrouped_0, Bgrouped_21, Bgrouped_29, Bgrouped_33, Bgrouped_44, Bgrouped_55, Bgrouped_65, Bgrouped_69, Bgrouped_70, Bgrouped_77, oi_0, oi_1, oi_38, oi_39]; try dsimp only
          try simp only [hR.e2, hR.e14, hR.e15, hR.e17, hR.e18, hR.e36, hR.e42, hR.e49, hR.e62, hR.a3, hR.a6, hR.a51, hR.a19, hR.a63, hR.a64, hR.hp]
          unfold Qj_grouped
          try dsimp only
          exact ⟨_, rfl, rfl, rfl, rfl, hso⟩
        · refine hB _ _ _ _ _ _ _ _ (fun m4 hm4 => ?_)
          dsimp only [jgo, jwp, jst, jct, rfd, Bgrouped, Nat.beq, lv_args, rlk, rs1, rs2, rdl, rky, rcd, rno, rsw, Value.category, List.filter, List.take, List.drop, List.reverse, List.reverseAux, List.cons_append, List.nil_append, Option.toList, Int.toNat, Int.reduceToNat, if_pos, if_neg, reduceIte, ↓reduceIte, Nat.reduceAdd, Nat.reduceEqDiff, Nat.reduceBEq, beq_self_eq_true, Bool.not_true, Bool.not_false, Bool.and_true, Bool.and_false, Bool.true_and, Bool.false_and, gI_sI, gI_sL, gI_sA, gI_sM, gL_sI, gL_sL, gL_sA, gL_sM, aI_sI, aI_sL, aI_sA, aI_sM, aL_sI, aL_sL, aL_sA, aL_sM, Bgrouped_0, Bgrouped_21, Bgrouped_29, Bgrouped_33, Bgrouped_44, Bgrouped_55, Bgrouped_65, Bgrouped_69, Bgrouped_70, Bgrouped_77, oi_0, oi_1, oi_38, oi_39]; try dsimp only
          try simp only [hR.e2, hR.e14, hR.e15, hR.e17, hR.e18, hR.e36, hR.e42, hR.e49, hR.e62, hR.a3, hR.a6, hR.a51, hR.a19, hR.a63, hR.a64, hR.hp]
          refine ⟨fun h5 => ⟨(by exact h5), ?_⟩, fun h5 => ⟨(by exact h5), ?_⟩⟩
          · refine hB _ _ _ _ _ _ _ _ (fun m6 hm6 => ?_)
            dsimp only [jgo, jwp, jst, jct, rfd, Bgrouped, Nat.beq, lv_args, rlk, rs1, rs2, rdl, rky, rcd, rno, rsw, Value.category, List.filter, List.take, List.drop, List.reverse, List.reverseAux, List.cons_append, List.nil_append, Option.toList, Int.toNat, Int.reduceToNat, if_pos, if_neg, reduceIte, ↓reduceIte, Nat.reduceAdd, Nat.reduceEqDiff, Nat.reduceBEq, beq_self_eq_true, Bool.not_true, Bool.not_false, Bool.and_true, Bool.and_false, Bool.true_and, Bool.false_and, gI_sI, gI_sL, gI_sA, gI_sM, gL_sI, gL_sL, gL_sA, gL_sM, aI_sI, aI_sL, aI_sA, aI_sM, aL_sI, aL_sL, aL_sA, aL_sM, Bgrouped_0, Bgrouped_21, Bgrouped_29, Bgrouped_33, Bgrouped_44, Bgrouped_55, Bgrouped_65, Bgrouped_69, Bgrouped_70, Bgrouped_77, oi_0, oi_1, oi_38, oi_39]; try dsimp only
            try simp only [hR.e2, hR.e14, hR.e15, hR.e17, hR.e18, hR.e36, hR.e42, hR.e49, hR.e62, hR.a3, hR.a6, hR.a51, hR.a19, hR.a63, hR.a64, hR.hp]
            refine hB _ _ _ _ _ _ _ _ (fun m7 hm7 => ?_)
            dsimp only [jgo, jwp, jst, jct, rfd, Bgrouped, Nat.beq, lv_args, rlk, rs1, rs2, rdl, rky, rcd, rno, rsw, Value.category, List.filter, List.take, List.drop, List.reverse, List.reverseAux, List.cons_append, List.nil_append, Option.toList, Int.toNat, Int.reduceToNat, if_pos, if_neg, reduceIte, ↓reduceIte, Nat.reduceAdd, Nat.reduceEqDiff, Nat.reduceBEq, beq_self_eq_true, Bool.not_true, Bool.not_false, Bool.and_true, Bool.and_false, Bool.true_and, Bool.false_and, gI_sI, gI_sL, gI_sA, gI_sM, gL_sI, gL_sL, gL_sA, gL_sM, aI_sI, aI_sL, aI_sA, aI_sM, aL_sI, aL_sL, aL_sA, aL_sM, Bgrouped_0, Bgrouped_21, Bgrouped_29, Bgrouped_33, Bgrouped_44, Bgrouped_55, Bgrouped_65, Bgrouped_69, Bgrouped_70, Bgrouped_77, oi_0, oi_1, oi_38, oi_39]; try dsimp only
            try simp only [hR.e2, hR.e14, hR.e15, hR.e17, hR.e18, hR.e36, hR.e42, hR.e49, hR.e62, hR.a3, hR.a6, hR.a51, hR.a19, hR.a63, hR.a64, hR.hp]
            exact hW _ 21 [(0, .ref 1000), (1, .int (aI σ 64 (gI σ 62 - 1).toNatClampNeg)), (2, .int 1), (3, .int (c + 1))] [(0, .ref 1000), (1, .int (aI σ 64 (gI σ 62 - 1).toNatClampNeg)), (2, .int 1), (3, .int (c + 1))] _ _ _ _ _ _ (by simp [rdl, rky]) (by simp [rdl, rky]) (loop _ (by omega) 1 (c + 1) (by decide))
          · refine hB _ _ _ _ _ _ _ _ (fun m8 hm8 => ?_)
            dsimp only [jgo, jwp, jst, jct, rfd, Bgrouped, Nat.beq, lv_args, rlk, rs1, rs2, rdl, rky, rcd, rno, rsw, Value.category, List.filter, List.take, List.drop, List.reverse, List.reverseAux, List.cons_append, List.nil_append, Option.toList, Int.toNat, Int.reduceToNat, if_pos, if_neg, reduceIte, ↓reduceIte, Nat.reduceAdd, Nat.reduceEqDiff, Nat.reduceBEq, beq_self_eq_true, Bool.not_true, Bool.not_false, Bool.and_true, Bool.and_false, Bool.true_and, Bool.false_and, gI_sI, gI_sL, gI_sA, gI_sM, gL_sI, gL_sL, gL_sA, gL_sM, aI_sI, aI_sL, aI_sA, aI_sM, aL_sI, aL_sL, aL_sA, aL_sM, Bgrouped_0, Bgrouped_21, Bgrouped_29, Bgrouped_33, Bgrouped_44, Bgrouped_55, Bgrouped_65, Bgrouped_69, Bgrouped_70, Bgrouped_77, oi_0, oi_1, oi_38, oi_39]; try dsimp only
            try simp only [hR.e2, hR.e14, hR.e15, hR.e17, hR.e18, hR.e36, hR.e42, hR.e49, hR.e62, hR.a3, hR.a6, hR.a51, hR.a19, hR.a63, hR.a64, hR.hp]
            intro p9 q9
            have hx : c.toNatClampNeg < (gI σ 18).toNatClampNeg := nT_lt (vp_in0 (by assumption)) (by lia)
            try simp only [hR.e2, hR.e14, hR.e15, hR.e17, hR.e18, hR.e36, hR.e42, hR.e49, hR.e62, hR.a3, hR.a6, hR.a51, hR.a19, hR.a63, hR.a64, hR.hp, hx]
            refine ⟨fun h10 => ⟨(by exact h10), ?_⟩, fun h10 => ⟨(by exact h10), ?_⟩⟩
            · refine hB _ _ _ _ _ _ _ _ (fun m11 hm11 => ?_)
              dsimp only [jgo, jwp, jst, jct, rfd, Bgrouped, Nat.beq, lv_args, rlk, rs1, rs2, rdl, rky, rcd, rno, rsw, Value.category, List.filter, List.take, List.drop, List.reverse, List.reverseAux, List.cons_append, List.nil_append, Option.toList, Int.toNat, Int.reduceToNat, if_pos, if_neg, reduceIte, ↓reduceIte, Nat.reduceAdd, Nat.reduceEqDiff, Nat.reduceBEq, beq_self_eq_true, Bool.not_true, Bool.not_false, Bool.and_true, Bool.and_false, Bool.true_and, Bool.false_and, gI_sI, gI_sL, gI_sA, gI_sM, gL_sI, gL_sL, gL_sA, gL_sM, aI_sI, aI_sL, aI_sA, aI_sM, aL_sI, aL_sL, aL_sA, aL_sM, Bgrouped_0, Bgrouped_21, Bgrouped_29, Bgrouped_33, Bgrouped_44, Bgrouped_55, Bgrouped_65, Bgrouped_69, Bgrouped_70, Bgrouped_77, oi_0, oi_1, oi_38, oi_39]; try dsimp only
              try simp only [hR.e2, hR.e14, hR.e15, hR.e17, hR.e18, hR.e36, hR.e42, hR.e49, hR.e62, hR.a3, hR.a6, hR.a51, hR.a19, hR.a63, hR.a64, hR.hp, hx]
              intro p12 q12
              rw [hR.a20 hx (by lia)]
              try simp only [hR.e2, hR.e14, hR.e15, hR.e17, hR.e18, hR.e36, hR.e42, hR.e49, hR.e62, hR.a3, hR.a6, hR.a51, hR.a19, hR.a63, hR.a64, hR.hp, hx]
              refine ⟨fun h13 => ⟨(by exact h13), ?_⟩, fun h13 => ⟨(by exact h13), ?_⟩⟩
              · refine hB _ _ _ _ _ _ _ _ (fun m14 hm14 => ?_)
                dsimp only [jgo, jwp, jst, jct, rfd, Bgrouped, Nat.beq, lv_args, rlk, rs1, rs2, rdl, rky, rcd, rno, rsw, Value.category, List.filter, List.take, List.drop, List.reverse, List.reverseAux, List.cons_append, List.nil_append, Option.toList, Int.toNat, Int.reduceToNat, if_pos, if_neg, reduceIte, ↓reduceIte, Nat.reduceAdd, Nat.reduceEqDiff, Nat.reduceBEq, beq_self_eq_true, Bool.not_true, Bool.not_false, Bool.and_true, Bool.and_false, Bool.true_and, Bool.false_and, gI_sI, gI_sL, gI_sA, gI_sM, gL_sI, gL_sL, gL_sA, gL_sM, aI_sI, aI_sL, aI_sA, aI_sM, aL_sI, aL_sL, aL_sA, aL_sM, Bgrouped_0, Bgrouped_21, Bgrouped_29, Bgrouped_33, Bgrouped_44, Bgrouped_55, Bgrouped_65, Bgrouped_69, Bgrouped_70, Bgrouped_77, oi_0, oi_1, oi_38, oi_39]; try dsimp only
                try simp only [hR.e2, hR.e14, hR.e15, hR.e17, hR.e18, hR.e36, hR.e42, hR.e49, hR.e62, hR.a3, hR.a6, hR.a51, hR.a19, hR.a63, hR.a64, hR.hp, hx]
                refine hB _ _ _ _ _ _ _ _ (fun m15 hm15 => ?_)
                dsimp only [jgo, jwp, jst, jct, rfd, Bgrouped, Nat.beq, lv_args, rlk, rs1, rs2, rdl, rky, rcd, rno, rsw, Value.category, List.filter, List.take, List.drop, List.reverse, List.reverseAux, List.cons_append, List.nil_append, Option.toList, Int.toNat, Int.reduceToNat, if_pos, if_neg, reduceIte, ↓reduceIte, Nat.reduceAdd, Nat.reduceEqDiff, Nat.reduceBEq, beq_self_eq_true, Bool.not_true, Bool.not_false, Bool.and_true, Bool.and_false, Bool.true_and, Bool.false_and, gI_sI, gI_sL, gI_sA, gI_sM, gL_sI, gL_sL, gL_sA, gL_sM, aI_sI, aI_sL, aI_sA, aI_sM, aL_sI, aL_sL, aL_sA, aL_sM, Bgrouped_0, Bgrouped_21, Bgrouped_29, Bgrouped_33, Bgrouped_44, Bgrouped_55, Bgrouped_65, Bgrouped_69, Bgrouped_70, Bgrouped_77, oi_0, oi_1, oi_38, oi_39]; try dsimp only
                try simp only [hR.e2, hR.e14, hR.e15, hR.e17, hR.e18, hR.e36, hR.e42, hR.e49, hR.e62, hR.a3, hR.a6, hR.a51, hR.a19, hR.a63, hR.a64, hR.hp, hx]
                exact hW _ 21 [(0, .ref 1000), (1, .int (aI σ 64 (gI σ 62 - 1).toNatClampNeg)), (2, .int 0), (3, .int (c + 1))] [(0, .ref 1000), (1, .int (aI σ 64 (gI σ 62 - 1).toNatClampNeg)), (2, .int 0), (3, .int (c + 1))] _ _ _ _ _ _ (by simp [rdl, rky]) (by simp [rdl, rky]) (loop _ (by omega) 0 (c + 1) (by decide))
              · refine hB _ _ _ _ _ _ _ _ (fun m16 hm16 => ?_)
                dsimp only [jgo, jwp, jst, jct, rfd, Bgrouped, Nat.beq, lv_args, rlk, rs1, rs2, rdl, rky, rcd, rno, rsw, Value.category, List.filter, List.take, List.drop, List.reverse, List.reverseAux, List.cons_append, List.nil_append, Option.toList, Int.toNat, Int.reduceToNat, if_pos, if_neg, reduceIte, ↓reduceIte, Nat.reduceAdd, Nat.reduceEqDiff, Nat.reduceBEq, beq_self_eq_true, Bool.not_true, Bool.not_false, Bool.and_true, Bool.and_false, Bool.true_and, Bool.false_and, gI_sI, gI_sL, gI_sA, gI_sM, gL_sI, gL_sL, gL_sA, gL_sM, aI_sI, aI_sL, aI_sA, aI_sM, aL_sI, aL_sL, aL_sA, aL_sM, Bgrouped_0, Bgrouped_21, Bgrouped_29, Bgrouped_33, Bgrouped_44, Bgrouped_55, Bgrouped_65, Bgrouped_69, Bgrouped_70, Bgrouped_77, oi_0, oi_1, oi_38, oi_39]; try dsimp only
                try simp only [hR.e2, hR.e14, hR.e15, hR.e17, hR.e18, hR.e36, hR.e42, hR.e49, hR.e62, hR.a3, hR.a6, hR.a51, hR.a19, hR.a63, hR.a64, hR.hp, hx]
                refine hB _ _ _ _ _ _ _ _ (fun m17 hm17 => ?_)
                dsimp only [jgo, jwp, jst, jct, rfd, Bgrouped, Nat.beq, lv_args, rlk, rs1, rs2, rdl, rky, rcd, rno, rsw, Value.category, List.filter, List.take, List.drop, List.reverse, List.reverseAux, List.cons_append, List.nil_append, Option.toList, Int.toNat, Int.reduceToNat, if_pos, if_neg, reduceIte, ↓reduceIte, Nat.reduceAdd, Nat.reduceEqDiff, Nat.reduceBEq, beq_self_eq_true, Bool.not_true, Bool.not_false, Bool.and_true, Bool.and_false, Bool.true_and, Bool.false_and, gI_sI, gI_sL, gI_sA, gI_sM, gL_sI, gL_sL, gL_sA, gL_sM, aI_sI, aI_sL, aI_sA, aI_sM, aL_sI, aL_sL, aL_sA, aL_sM, Bgrouped_0, Bgrouped_21, Bgrouped_29, Bgrouped_33, Bgrouped_44, Bgrouped_55, Bgrouped_65, Bgrouped_69, Bgrouped_70, Bgrouped_77, oi_0, oi_1, oi_38, oi_39]; try dsimp only
                try simp only [hR.e2, hR.e14, hR.e15, hR.e17, hR.e18, hR.e36, hR.e42, hR.e49, hR.e62, hR.a3, hR.a6, hR.a51, hR.a19, hR.a63, hR.a64, hR.hp, hx]
                exact hW _ 21 [(0, .ref 1000), (1, .int (aI σ 64 (gI σ 62 - 1).toNatClampNeg)), (2, .int 1), (3, .int (c + 1))] [(0, .ref 1000), (1, .int (aI σ 64 (gI σ 62 - 1).toNatClampNeg)), (2, .int 1), (3, .int (c + 1))] _ _ _ _ _ _ (by simp [rdl, rky]) (by simp [rdl, rky]) (loop _ (by omega) 1 (c + 1) (by decide))
            · refine hB _ _ _ _ _ _ _ _ (fun m18 hm18 => ?_)
              dsimp only [jgo, jwp, jst, jct, rfd, Bgrouped, Nat.beq, lv_args, rlk, rs1, rs2, rdl, rky, rcd, rno, rsw, Value.category, List.filter, List.take, List.drop, List.reverse, List.reverseAux, List.cons_append, List.nil_append, Option.toList, Int.toNat, Int.reduceToNat, if_pos, if_neg, reduceIte, ↓reduceIte, Nat.reduceAdd, Nat.reduceEqDiff, Nat.reduceBEq, beq_self_eq_true, Bool.not_true, Bool.not_false, Bool.and_true, Bool.and_false, Bool.true_and, Bool.false_and, gI_sI, gI_sL, gI_sA, gI_sM, gL_sI, gL_sL, gL_sA, gL_sM, aI_sI, aI_sL, aI_sA, aI_sM, aL_sI, aL_sL, aL_sA, aL_sM, Bgrouped_0, Bgrouped_21, Bgrouped_29, Bgrouped_33, Bgrouped_44, Bgrouped_55, Bgrouped_65, Bgrouped_69, Bgrouped_70, Bgrouped_77, oi_0, oi_1, oi_38, oi_39]; try dsimp only
              try simp only [hR.e2, hR.e14, hR.e15, hR.e17, hR.e18, hR.e36, hR.e42, hR.e49, hR.e62, hR.a3, hR.a6, hR.a51, hR.a19, hR.a63, hR.a64, hR.hp, hx]
              intro p19 q19
              skip
              try simp only [hR.e2, hR.e14, hR.e15, hR.e17, hR.e18, hR.e36, hR.e42, hR.e49, hR.e62, hR.a3, hR.a6, hR.a51, hR.a19, hR.a63, hR.a64, hR.hp, hx]
              refine ⟨fun h20 => ⟨(by exact h20), ?_⟩, fun h20 => ⟨(by exact h20), ?_⟩⟩
              · refine hB _ _ _ _ _ _ _ _ (fun m21 hm21 => ?_)
                dsimp only [jgo, jwp, jst, jct, rfd, Bgrouped, Nat.beq, lv_args, rlk, rs1, rs2, rdl, rky, rcd, rno, rsw, Value.category, List.filter, List.take, List.drop, List.reverse, List.reverseAux, List.cons_append, List.nil_append, Option.toList, Int.toNat, Int.reduceToNat, if_pos, if_neg, reduceIte, ↓reduceIte, Nat.reduceAdd, Nat.reduceEqDiff, Nat.reduceBEq, beq_self_eq_true, Bool.not_true, Bool.not_false, Bool.and_true, Bool.and_false, Bool.true_and, Bool.false_and, gI_sI, gI_sL, gI_sA, gI_sM, gL_sI, gL_sL, gL_sA, gL_sM, aI_sI, aI_sL, aI_sA, aI_sM, aL_sI, aL_sL, aL_sA, aL_sM, Bgrouped_0, Bgrouped_21, Bgrouped_29, Bgrouped_33, Bgrouped_44, Bgrouped_55, Bgrouped_65, Bgrouped_69, Bgrouped_70, Bgrouped_77, oi_0, oi_1, oi_38, oi_39]; try dsimp only
                try simp only [hR.e2, hR.e14, hR.e15, hR.e17, hR.e18, hR.e36, hR.e42, hR.e49, hR.e62, hR.a3, hR.a6, hR.a51, hR.a19, hR.a63, hR.a64, hR.hp, hx]
                refine hB _ _ _ _ _ _ _ _ (fun m22 hm22 => ?_)
                dsimp only [jgo, jwp, jst, jct, rfd, Bgrouped, Nat.beq, lv_args, rlk, rs1, rs2, rdl, rky, rcd, rno, rsw, Value.category, List.filter, List.take, List.drop, List.reverse, List.reverseAux, List.cons_append, List.nil_append, Option.toList, Int.toNat, Int.reduceToNat, if_pos, if_neg, reduceIte, ↓reduceIte, Nat.reduceAdd, Nat.reduceEqDiff, Nat.reduceBEq, beq_self_eq_true, Bool.not_true, Bool.not_false, Bool.and_true, Bool.and_false, Bool.true_and, Bool.false_and, gI_sI, gI_sL, gI_sA, gI_sM, gL_sI, gL_sL, gL_sA, gL_sM, aI_sI, aI_sL, aI_sA, aI_sM, aL_sI, aL_sL, aL_sA, aL_sM, Bgrouped_0, Bgrouped_21, Bgrouped_29, Bgrouped_33, Bgrouped_44, Bgrouped_55, Bgrouped_65, Bgrouped_69, Bgrouped_70, Bgrouped_77, oi_0, oi_1, oi_38, oi_39]; try dsimp only
                try simp only [hR.e2, hR.e14, hR.e15, hR.e17, hR.e18, hR.e36, hR.e42, hR.e49, hR.e62, hR.a3, hR.a6, hR.a51, hR.a19, hR.a63, hR.a64, hR.hp, hx]
                exact hW _ 21 [(0, .ref 1000), (1, .int (aI σ 64 (gI σ 62 - 1).toNatClampNeg)), (2, .int 0), (3, .int (c + 1))] [(0, .ref 1000), (1, .int (aI σ 64 (gI σ 62 - 1).toNatClampNeg)), (2, .int 0), (3, .int (c + 1))] _ _ _ _ _ _ (by simp [rdl, rky]) (by simp [rdl, rky]) (loop _ (by omega) 0 (c + 1) (by decide))
              · refine hB _ _ _ _ _ _ _ _ (fun m23 hm23 => ?_)
                dsimp only [jgo, jwp, jst, jct, rfd, Bgrouped, Nat.beq, lv_args, rlk, rs1, rs2, rdl, rky, rcd, rno, rsw, Value.category, List.filter, List.take, List.drop, List.reverse, List.reverseAux, List.cons_append, List.nil_append, Option.toList, Int.toNat, Int.reduceToNat, if_pos, if_neg, reduceIte, ↓reduceIte, Nat.reduceAdd, Nat.reduceEqDiff, Nat.reduceBEq, beq_self_eq_true, Bool.not_true, Bool.not_false, Bool.and_true, Bool.and_false, Bool.true_and, Bool.false_and, gI_sI, gI_sL, gI_sA, gI_sM, gL_sI, gL_sL, gL_sA, gL_sM, aI_sI, aI_sL, aI_sA, aI_sM, aL_sI, aL_sL, aL_sA, aL_sM, Bgrouped_0, Bgrouped_21, Bgrouped_29, Bgrouped_33, Bgrouped_44, Bgrouped_55, Bgrouped_65, Bgrouped_69, Bgrouped_70, Bgrouped_77, oi_0, oi_1, oi_38, oi_39]; try dsimp only
                try simp only [hR.e2, hR.e14, hR.e15, hR.e17, hR.e18, hR.e36, hR.e42, hR.e49, hR.e62, hR.a3, hR.a6, hR.a51, hR.a19, hR.a63, hR.a64, hR.hp, hx]
                intro p24 q24
                rw [hR.a20 hx (by lia)]
                try simp only [hR.e2, hR.e14, hR.e15, hR.e17, hR.e18, hR.e36, hR.e42, hR.e49, hR.e62, hR.a3, hR.a6, hR.a51, hR.a19, hR.a63, hR.a64, hR.hp, hx]
                refine ⟨fun h25 => ⟨(by exact h25), ?_⟩, fun h25 => ⟨(by exact h25), ?_⟩⟩
                · refine hB _ _ _ _ _ _ _ _ (fun m26 hm26 => ?_)
                  dsimp only [jgo, jwp, jst, jct, rfd, Bgrouped, Nat.beq, lv_args, rlk, rs1, rs2, rdl, rky, rcd, rno, rsw, Value.category, List.filter, List.take, List.drop, List.reverse, List.reverseAux, List.cons_append, List.nil_append, Option.toList, Int.toNat, Int.reduceToNat, if_pos, if_neg, reduceIte, ↓reduceIte, Nat.reduceAdd, Nat.reduceEqDiff, Nat.reduceBEq, beq_self_eq_true, Bool.not_true, Bool.not_false, Bool.and_true, Bool.and_false, Bool.true_and, Bool.false_and, gI_sI, gI_sL, gI_sA, gI_sM, gL_sI, gL_sL, gL_sA, gL_sM, aI_sI, aI_sL, aI_sA, aI_sM, aL_sI, aL_sL, aL_sA, aL_sM, Bgrouped_0, Bgrouped_21, Bgrouped_29, Bgrouped_33, Bgrouped_44, Bgrouped_55, Bgrouped_65, Bgrouped_69, Bgrouped_70, Bgrouped_77, oi_0, oi_1, oi_38, oi_39]; try dsimp only
                  try simp only [hR.e2, hR.e14, hR.e15, hR.e17, hR.e18, hR.e36, hR.e42, hR.e49, hR.e62, hR.a3, hR.a6, hR.a51, hR.a19, hR.a63, hR.a64, hR.hp, hx]
                  refine hB _ _ _ _ _ _ _ _ (fun m27 hm27 => ?_)
                  dsimp only [jgo, jwp, jst, jct, rfd, Bgrouped, Nat.beq, lv_args, rlk, rs1, rs2, rdl, rky, rcd, rno, rsw, Value.category, List.filter, List.take, List.drop, List.reverse, List.reverseAux, List.cons_append, List.nil_append, Option.toList, Int.toNat, Int.reduceToNat, if_pos, if_neg, reduceIte, ↓reduceIte, Nat.reduceAdd, Nat.reduceEqDiff, Nat.reduceBEq, beq_self_eq_true, Bool.not_true, Bool.not_false, Bool.and_true, Bool.and_false, Bool.true_and, Bool.false_and, gI_sI, gI_sL, gI_sA, gI_sM, gL_sI, gL_sL, gL_sA, gL_sM, aI_sI, aI_sL, aI_sA, aI_sM, aL_sI, aL_sL, aL_sA, aL_sM, Bgrouped_0, Bgrouped_21, Bgrouped_29, Bgrouped_33, Bgrouped_44, Bgrouped_55, Bgrouped_65, Bgrouped_69, Bgrouped_70, Bgrouped_77, oi_0, oi_1, oi_38, oi_39]; try dsimp only
                  try simp only [hR.e2, hR.e14, hR.e15, hR.e17, hR.e18, hR.e36, hR.e42, hR.e49, hR.e62, hR.a3, hR.a6, hR.a51, hR.a19, hR.a63, hR.a64, hR.hp, hx]
                  exact hW _ 21 [(0, .ref 1000), (1, .int (aI σ 64 (gI σ 62 - 1).toNatClampNeg)), (2, .int 0), (3, .int (c + 1))] [(0, .ref 1000), (1, .int (aI σ 64 (gI σ 62 - 1).toNatClampNeg)), (2, .int 0), (3, .int (c + 1))] _ _ _ _ _ _ (by simp [rdl, rky]) (by simp [rdl, rky]) (loop _ (by omega) 0 (c + 1) (by decide))
                · refine hB _ _ _ _ _ _ _ _ (fun m28 hm28 => ?_)
                  dsimp only [jgo, jwp, jst, jct, rfd, Bgrouped, Nat.beq, lv_args, rlk, rs1, rs2, rdl, rky, rcd, rno, rsw, Value.category, List.filter, List.take, List.drop, List.reverse, List.reverseAux, List.cons_append, List.nil_append, Option.toList, Int.toNat, Int.reduceToNat, if_pos, if_neg, reduceIte, ↓reduceIte, Nat.reduceAdd, Nat.reduceEqDiff, Nat.reduceBEq, beq_self_eq_true, Bool.not_true, Bool.not_false, Bool.and_true, Bool.and_false, Bool.true_and, Bool.false_and, gI_sI, gI_sL, gI_sA, gI_sM, gL_sI, gL_sL, gL_sA, gL_sM, aI_sI, aI_sL, aI_sA, aI_sM, aL_sI, aL_sL, aL_sA, aL_sM, Bgrouped_0, Bgrouped_21, Bgrouped_29, Bgrouped_33, Bgrouped_44, Bgrouped_55, Bgrouped_65, Bgrouped_69, Bgrouped_70, Bgrouped_77, oi_0, oi_1, oi_38, oi_39]; try dsimp only
                  try simp only [hR.e2, hR.e14, hR.e15, hR.e17, hR.e18, hR.e36, hR.e42, hR.e49, hR.e62, hR.a3, hR.a6, hR.a51, hR.a19, hR.a63, hR.a64, hR.hp, hx]
                  refine hB _ _ _ _ _ _ _ _ (fun m29 hm29 => ?_)
                  dsimp only [jgo, jwp, jst, jct, rfd, Bgrouped, Nat.beq, lv_args, rlk, rs1, rs2, rdl, rky, rcd, rno, rsw, Value.category, List.filter, List.take, List.drop, List.reverse, List.reverseAux, List.cons_append, List.nil_append, Option.toList, Int.toNat, Int.reduceToNat, if_pos, if_neg, reduceIte, ↓reduceIte, Nat.reduceAdd, Nat.reduceEqDiff, Nat.reduceBEq, beq_self_eq_true, Bool.not_true, Bool.not_false, Bool.and_true, Bool.and_false, Bool.true_and, Bool.false_and, gI_sI, gI_sL, gI_sA, gI_sM, gL_sI, gL_sL, gL_sA, gL_sM, aI_sI, aI_sL, aI_sA, aI_sM, aL_sI, aL_sL, aL_sA, aL_sM, Bgrouped_0, Bgrouped_21, Bgrouped_29, Bgrouped_33, Bgrouped_44, Bgrouped_55, Bgrouped_65, Bgrouped_69, Bgrouped_70, Bgrouped_77, oi_0, oi_1, oi_38, oi_39]; try dsimp only
                  try simp only [hR.e2, hR.e14, hR.e15, hR.e17, hR.e18, hR.e36, hR.e42, hR.e49, hR.e62, hR.a3, hR.a6, hR.a51, hR.a19, hR.a63, hR.a64, hR.hp, hx]
                  exact hW _ 21 [(0, .ref 1000), (1, .int (aI σ 64 (gI σ 62 - 1).toNatClampNeg)), (2, .int 1), (3, .int (c + 1))] [(0, .ref 1000), (1, .int (aI σ 64 (gI σ 62 - 1).toNatClampNeg)), (2, .int 1), (3, .int (c + 1))] _ _ _ _ _ _ (by simp [rdl, rky]) (by simp [rdl, rky]) (loop _ (by omega) 1 (c + 1) (by decide))
    intro n0
    refine hB _ _ _ _ _ _ _ _ (fun m1 hm1 => ?_)
    dsimp only [jgo, jwp, jst, jct, rfd, Bgrouped, Nat.beq, lv_args, rlk, rs1, rs2, rdl, rky, rcd, rno, rsw, Value.category, List.filter, List.take, List.drop, List.reverse, List.reverseAux, List.cons_append, List.nil_append, Option.toList, Int.toNat, Int.reduceToNat, if_pos, if_neg, reduceIte, ↓reduceIte, Nat.reduceAdd, Nat.reduceEqDiff, Nat.reduceBEq, beq_self_eq_true, Bool.not_true, Bool.not_false, Bool.and_true, Bool.and_false, Bool.true_and, Bool.false_and, gI_sI, gI_sL, gI_sA, gI_sM, gL_sI, gL_sL, gL_sA, gL_sM, aI_sI, aI_sL, aI_sA, aI_sM, aL_sI, aL_sL, aL_sA, aL_sM, Bgrouped_0, Bgrouped_21, Bgrouped_29, Bgrouped_33, Bgrouped_44, Bgrouped_55, Bgrouped_65, Bgrouped_69, Bgrouped_70, Bgrouped_77, oi_0, oi_1, oi_38, oi_39]; try dsimp only
    try simp only [hR.e2, hR.e14, hR.e15, hR.e17, hR.e18, hR.e36, hR.e42, hR.e49, hR.e62, hR.a3, hR.a6, hR.a51, hR.a19, hR.a63, hR.a64, hR.hp, ho, hk0]
    intro p2 q2
    try simp only [hR.e2, hR.e14, hR.e15, hR.e17, hR.e18, hR.e36, hR.e42, hR.e49, hR.e62, hR.a3, hR.a6, hR.a51, hR.a19, hR.a63, hR.a64, hR.hp, ho, hk0]
    intro p3 q3
    try simp only [hR.e2, hR.e14, hR.e15, hR.e17, hR.e18, hR.e36, hR.e42, hR.e49, hR.e62, hR.a3, hR.a6, hR.a51, hR.a19, hR.a63, hR.a64, hR.hp, ho, hk0]
    exact hW _ 21 [(0, .ref 1000), (1, .int (aI σ 64 (gI σ 62 - 1).toNatClampNeg)), (2, .int 0), (3, .int (aI σ 51 (aI σ 64 (gI σ 62 - 1).toNatClampNeg).toNatClampNeg))] [(0, .ref 1000), (1, .int (aI σ 64 (gI σ 62 - 1).toNatClampNeg)), (2, .int 0), (3, .int (aI σ 51 (aI σ 64 (gI σ 62 - 1).toNatClampNeg).toNatClampNeg))] _ _ _ _ _ _ (by simp [rdl, rky]) (by simp [rdl, rky]) (loop _ 0 _ (Or.inl rfl))
  next => exact hP.elim
def Pj_param : JPr := fun A1 A2 σ ρ => match A1, A2 with
  | [.int m, .int k], [.int m', .int k'] => Rj 1 σ ρ ∧ m = m' ∧ aI ρ 39 m.toNatClampNeg = aI σ 39 m.toNatClampNeg
  | _, _ => False
def Qj_param : JQr := fun A1 A2 σ ρ w τ w' τ' => match A1, A2 with
  | [.int m, .int k], [.int m', .int k'] => ∃ b : Int32, w = some (.int b) ∧ w' = some (.int b) ∧ (b = 0 ∨ (b = 1 ∧ Rj 1 τ τ' ∧ (gI τ 36 = gI σ 36 ∧ gI τ 49 = gI σ 49) ∧ aI τ' 39 m.toNatClampNeg = aI τ 39 m.toNatClampNeg))
  | _, _ => False
set_option maxRecDepth 100000 in
set_option maxHeartbeats 4000000 in
theorem j_param : JMet 39 Pj_param Qj_param := by
  refine JMet.by Bparam [(13, (fun A1 A2 σ ρ => Pu_cant A1 σ ∧ Pu_cant A2 ρ), (fun A1 A2 σ ρ w τ w' τ' => Qu_cant A1 σ w τ ∧ Qu_cant A2 ρ w' τ')), (23, Pj_isType, Qj_isType), (15, Pj_isWord, Qj_isWord), (17, Pj_take, Qj_take), (40, Pj_variable, Qj_variable), (12, (fun A1 A2 σ ρ => Pu_wrong A1 σ ∧ Pu_wrong A2 ρ), (fun A1 A2 σ ρ w τ w' τ' => Qu_wrong A1 σ w τ ∧ Qu_wrong A2 ρ w' τ'))] rfl (jcc (JMet.u u_cant) (jcc j_isType (jcc j_isWord (jcc j_take (jcc j_variable (jcc (JMet.u u_wrong) jc0)))))) ?_
  intro A1 A2 σ ρ hP K hB hW
  unfold Pj_param at hP
  split at hP
  next m k m' k' =>
    obtain ⟨hR, rfl, hm0⟩ := hP
    intro n0
    refine hB _ _ _ _ _ _ _ _ (fun m1 hm1 => ?_)
    dsimp only [jgo, jwp, jst, jct, rfd, Bparam, Nat.beq, lv_args, rlk, rs1, rs2, rdl, rky, rcd, rno, rsw, Value.category, List.filter, List.take, List.drop, List.reverse, List.reverseAux, List.cons_append, List.nil_append, Option.toList, Int.toNat, Int.reduceToNat, if_pos, if_neg, reduceIte, ↓reduceIte, Nat.reduceAdd, Nat.reduceEqDiff, Nat.reduceBEq, beq_self_eq_true, Bool.not_true, Bool.not_false, Bool.and_true, Bool.and_false, Bool.true_and, Bool.false_and, gI_sI, gI_sL, gI_sA, gI_sM, gL_sI, gL_sL, gL_sA, gL_sM, aI_sI, aI_sL, aI_sA, aI_sM, aL_sI, aL_sL, aL_sA, aL_sM, Bparam_0, Bparam_11, Bparam_18, Bparam_20, Bparam_31, Bparam_36, Bparam_54, Bparam_56, Bparam_69, Bparam_74, Bparam_85, Bparam_95, oi_0, oi_1, oi_21, oi_3, oi_6, Pu_cant, Pj_isType, Pj_isWord, Pj_take, Pj_variable, Pu_wrong]; try dsimp only
    try simp only [hR.e2, hR.e14, hR.e15, hR.e17, hR.e18, hR.e36, hR.e42, hR.e49, hR.e62, hR.a3, hR.a6, hR.a51, hR.a19, hR.a63, hR.a64, hR.hp, hm0]
    refine ⟨⟨(Rj.w (md := 1) (by (repeat (first | exact hR | refine Rj.i ?_ rfl | refine Rj.a ?_ rfl | refine Rj.m ?_ | refine Rj.s ?_ (by decide) | refine Rj.o1 ?_ (by first | lia | (dsimp only [Nat.beq, gI_sI, gI_sL, gI_sA, gI_sM, gL_sI, gL_sL, gL_sA, gL_sM, aI_sI, aI_sL, aI_sA, aI_sM, aL_sI, aL_sL, aL_sA, aL_sM]; lia)) | refine Rj.o2 ?_ | refine Rj.f1 ?_ (by first | lia | (dsimp only [Nat.beq, gI_sI, gI_sL, gI_sA, gI_sM, gL_sI, gL_sL, gL_sA, gL_sM, aI_sI, aI_sL, aI_sA, aI_sM, aL_sI, aL_sL, aL_sA, aL_sM]; lia)) | refine Rj.f2 ?_ | refine Rj.fs ?_)))), (by first | exact True.intro | rfl)⟩, fun w2 τ2 w2' τ2' hq2 => ?_⟩
    obtain ⟨b2, rfl, rfl, rfl, rfl, hb2⟩ := hq2
    rcases hb2 with rfl | ⟨rfl, hf2⟩
    · dsimp only [Option.toList, List.cons_append, List.nil_append, Nat.beq, gI_sI, gI_sL, gI_sA, gI_sM, gL_sI, gL_sL, gL_sA, gL_sM, aI_sI, aI_sL, aI_sA, aI_sM, aL_sI, aL_sL, aL_sA, aL_sM]
      try simp only [hR.e2, hR.e14, hR.e15, hR.e17, hR.e18, hR.e36, hR.e42, hR.e49, hR.e62, hR.a3, hR.a6, hR.a51, hR.a19, hR.a63, hR.a64, hR.hp, hm0]
      refine ⟨fun h3 => ⟨(by exact h3), ?_⟩, fun h3 => absurd h3 (by decide)⟩
      clear h3
      refine hB _ _ _ _ _ _ _ _ (fun m4 hm4 => ?_)
      dsimp only [jgo, jwp, jst, jct, rfd, Bparam, Nat.beq, lv_args, rlk, rs1, rs2, rdl, rky, rcd, rno, rsw, Value.category, List.filter, List.take, List.drop, List.reverse, List.reverseAux, List.cons_append, List.nil_append, Option.toList, Int.toNat, Int.reduceToNat, if_pos, if_neg, reduceIte, ↓reduceIte, Nat.reduceAdd, Nat.reduceEqDiff, Nat.reduceBEq, beq_self_eq_true, Bool.not_true, Bool.not_false, Bool.and_true, Bool.and_false, Bool.true_and, Bool.false_and, gI_sI, gI_sL, gI_sA, gI_sM, gL_sI, gL_sL, gL_sA, gL_sM, aI_sI, aI_sL, aI_sA, aI_sM, aL_sI, aL_sL, aL_sA, aL_sM, Bparam_0, Bparam_11, Bparam_18, Bparam_20, Bparam_31, Bparam_36, Bparam_54, Bparam_56, Bparam_69, Bparam_74, Bparam_85, Bparam_95, oi_0, oi_1, oi_21, oi_3, oi_6, Pu_cant, Pj_isType, Pj_isWord, Pj_take, Pj_variable, Pu_wrong]; try dsimp only
      try simp only [hR.e2, hR.e14, hR.e15, hR.e17, hR.e18, hR.e36, hR.e42, hR.e49, hR.e62, hR.a3, hR.a6, hR.a51, hR.a19, hR.a63, hR.a64, hR.hp, hm0]
      refine ⟨⟨(Rj.w (md := 1) (by (repeat (first | exact hR | refine Rj.i ?_ rfl | refine Rj.a ?_ rfl | refine Rj.m ?_ | refine Rj.s ?_ (by decide) | refine Rj.o1 ?_ (by first | lia | (dsimp only [Nat.beq, gI_sI, gI_sL, gI_sA, gI_sM, gL_sI, gL_sL, gL_sA, gL_sM, aI_sI, aI_sL, aI_sA, aI_sM, aL_sI, aL_sL, aL_sA, aL_sM]; lia)) | refine Rj.o2 ?_ | refine Rj.f1 ?_ (by first | lia | (dsimp only [Nat.beq, gI_sI, gI_sL, gI_sA, gI_sM, gL_sI, gL_sL, gL_sA, gL_sM, aI_sI, aI_sL, aI_sA, aI_sM, aL_sI, aL_sL, aL_sA, aL_sM]; lia)) | refine Rj.f2 ?_ | refine Rj.fs ?_)))), (by first | exact True.intro | rfl), (by first | exact hR.hp | trivial)⟩, fun w5 τ5 w5' τ5' hq5 => ?_⟩
      obtain ⟨b5, rfl, rfl, rfl, rfl, hb5⟩ := hq5
      rcases hb5 with rfl | ⟨rfl, hf5⟩
      · dsimp only [Option.toList, List.cons_append, List.nil_append, Nat.beq, gI_sI, gI_sL, gI_sA, gI_sM, gL_sI, gL_sL, gL_sA, gL_sM, aI_sI, aI_sL, aI_sA, aI_sM, aL_sI, aL_sL, aL_sA, aL_sM]
        try simp only [hR.e2, hR.e14, hR.e15, hR.e17, hR.e18, hR.e36, hR.e42, hR.e49, hR.e62, hR.a3, hR.a6, hR.a51, hR.a19, hR.a63, hR.a64, hR.hp, hm0]
        refine ⟨fun h6 => absurd h6 (by decide), fun h6 => ⟨(by exact h6), ?_⟩⟩
        clear h6
        refine hB _ _ _ _ _ _ _ _ (fun m7 hm7 => ?_)
        dsimp only [jgo, jwp, jst, jct, rfd, Bparam, Nat.beq, lv_args, rlk, rs1, rs2, rdl, rky, rcd, rno, rsw, Value.category, List.filter, List.take, List.drop, List.reverse, List.reverseAux, List.cons_append, List.nil_append, Option.toList, Int.toNat, Int.reduceToNat, if_pos, if_neg, reduceIte, ↓reduceIte, Nat.reduceAdd, Nat.reduceEqDiff, Nat.reduceBEq, beq_self_eq_true, Bool.not_true, Bool.not_false, Bool.and_true, Bool.and_false, Bool.true_and, Bool.false_and, gI_sI, gI_sL, gI_sA, gI_sM, gL_sI, gL_sL, gL_sA, gL_sM, aI_sI, aI_sL, aI_sA, aI_sM, aL_sI, aL_sL, aL_sA, aL_sM, Bparam_0, Bparam_11, Bparam_18, Bparam_20, Bparam_31, Bparam_36, Bparam_54, Bparam_56, Bparam_69, Bparam_74, Bparam_85, Bparam_95, oi_0, oi_1, oi_21, oi_3, oi_6, Pu_cant, Pj_isType, Pj_isWord, Pj_take, Pj_variable, Pu_wrong]; try dsimp only
        try simp only [hR.e2, hR.e14, hR.e15, hR.e17, hR.e18, hR.e36, hR.e42, hR.e49, hR.e62, hR.a3, hR.a6, hR.a51, hR.a19, hR.a63, hR.a64, hR.hp, hm0]
        refine ⟨⟨trivial, trivial⟩, fun w8 τ8 w8' τ8' hq8 => ?_⟩
        obtain ⟨rfl, rfl⟩ := hq8
        dsimp only [Option.toList, List.cons_append, List.nil_append, Nat.beq, gI_sI, gI_sL, gI_sA, gI_sM, gL_sI, gL_sL, gL_sA, gL_sM, aI_sI, aI_sL, aI_sA, aI_sM, aL_sI, aL_sL, aL_sA, aL_sM]
        try simp only [hR.e2, hR.e14, hR.e15, hR.e17, hR.e18, hR.e36, hR.e42, hR.e49, hR.e62, hR.a3, hR.a6, hR.a51, hR.a19, hR.a63, hR.a64, hR.hp, hm0]
        unfold Qj_param
        try dsimp only
        exact ⟨_, rfl, rfl, Or.inl rfl⟩
      · dsimp only [Option.toList, List.cons_append, List.nil_append, Nat.beq, gI_sI, gI_sL, gI_sA, gI_sM, gL_sI, gL_sL, gL_sA, gL_sM, aI_sI, aI_sL, aI_sA, aI_sM, aL_sI, aL_sL, aL_sA, aL_sM]
        try dsimp only [Nat.beq, gI_sI, gI_sL, gI_sA, gI_sM, gL_sI, gL_sL, gL_sA, gL_sM, aI_sI, aI_sL, aI_sA, aI_sM, aL_sI, aL_sL, aL_sA, aL_sM] at hf5
        try simp only [hR.e2, hR.e14, hR.e15, hR.e17, hR.e18, hR.e36, hR.e42, hR.e49, hR.e62, hR.a3, hR.a6, hR.a51, hR.a19, hR.a63, hR.a64, hR.hp, hm0]
        refine ⟨fun h9 => ⟨(by exact h9), ?_⟩, fun h9 => absurd h9 (by decide)⟩
        clear h9
        refine hB _ _ _ _ _ _ _ _ (fun m10 hm10 => ?_)
        dsimp only [jgo, jwp, jst, jct, rfd, Bparam, Nat.beq, lv_args, rlk, rs1, rs2, rdl, rky, rcd, rno, rsw, Value.category, List.filter, List.take, List.drop, List.reverse, List.reverseAux, List.cons_append, List.nil_append, Option.toList, Int.toNat, Int.reduceToNat, if_pos, if_neg, reduceIte, ↓reduceIte, Nat.reduceAdd, Nat.reduceEqDiff, Nat.reduceBEq, beq_self_eq_true, Bool.not_true, Bool.not_false, Bool.and_true, Bool.and_false, Bool.true_and, Bool.false_and, gI_sI, gI_sL, gI_sA, gI_sM, gL_sI, gL_sL, gL_sA, gL_sM, aI_sI, aI_sL, aI_sA, aI_sM, aL_sI, aL_sL, aL_sA, aL_sM, Bparam_0, Bparam_11, Bparam_18, Bparam_20, Bparam_31, Bparam_36, Bparam_54, Bparam_56, Bparam_69, Bparam_74, Bparam_85, Bparam_95, oi_0, oi_1, oi_21, oi_3, oi_6, Pu_cant, Pj_isType, Pj_isWord, Pj_take, Pj_variable, Pu_wrong]; try dsimp only
        try simp only [hR.e2, hR.e14, hR.e15, hR.e17, hR.e18, hR.e36, hR.e42, hR.e49, hR.e62, hR.a3, hR.a6, hR.a51, hR.a19, hR.a63, hR.a64, hR.hp, hm0]
        intro p11 q11
        try simp only [hR.e2, hR.e14, hR.e15, hR.e17, hR.e18, hR.e36, hR.e42, hR.e49, hR.e62, hR.a3, hR.a6, hR.a51, hR.a19, hR.a63, hR.a64, hR.hp, hm0]
        refine ⟨⟨(Rj.w (md := 1) (by (repeat (first | exact hR | refine Rj.i ?_ rfl | refine Rj.a ?_ rfl | refine Rj.m ?_ | refine Rj.s ?_ (by decide) | refine Rj.o1 ?_ (by first | lia | (dsimp only [Nat.beq, gI_sI, gI_sL, gI_sA, gI_sM, gL_sI, gL_sL, gL_sA, gL_sM, aI_sI, aI_sL, aI_sA, aI_sM, aL_sI, aL_sL, aL_sA, aL_sM]; lia)) | refine Rj.o2 ?_ | refine Rj.f1 ?_ (by first | lia | (dsimp only [Nat.beq, gI_sI, gI_sL, gI_sA, gI_sM, gL_sI, gL_sL, gL_sA, gL_sM, aI_sI, aI_sL, aI_sA, aI_sM, aL_sI, aL_sL, aL_sA, aL_sM]; lia)) | refine Rj.f2 ?_ | refine Rj.fs ?_)))), by lia, by lia⟩, fun w12 τ12 w12' τ12' hq12 => ?_⟩
        obtain ⟨b12, rfl, rfl, hb12⟩ := hq12
        rcases hb12 with rfl | ⟨rfl, hr12, hk12, hx12⟩
        · dsimp only [Option.toList, List.cons_append, List.nil_append, Nat.beq, gI_sI, gI_sL, gI_sA, gI_sM, gL_sI, gL_sL, gL_sA, gL_sM, aI_sI, aI_sL, aI_sA, aI_sM, aL_sI, aL_sL, aL_sA, aL_sM]
          try simp only [hR.e2, hR.e14, hR.e15, hR.e17, hR.e18, hR.e36, hR.e42, hR.e49, hR.e62, hR.a3, hR.a6, hR.a51, hR.a19, hR.a63, hR.a64, hR.hp, hm0]
          refine ⟨fun h13 => absurd h13 (by decide), fun h13 => ⟨(by exact h13), ?_⟩⟩
          clear h13
          refine hB _ _ _ _ _ _ _ _ (fun m14 hm14 => ?_)
          dsimp only [jgo, jwp, jst, jct, rfd, Bparam, Nat.beq, lv_args, rlk, rs1, rs2, rdl, rky, rcd, rno, rsw, Value.category, List.filter, List.take, List.drop, List.reverse, List.reverseAux, List.cons_append, List.nil_append, Option.toList, Int.toNat, Int.reduceToNat, if_pos, if_neg, reduceIte, ↓reduceIte, Nat.reduceAdd, Nat.reduceEqDiff, Nat.reduceBEq, beq_self_eq_true, Bool.not_true, Bool.not_false, Bool.and_true, Bool.and_false, Bool.true_and, Bool.false_and, gI_sI, gI_sL, gI_sA, gI_sM, gL_sI, gL_sL, gL_sA, gL_sM, aI_sI, aI_sL, aI_sA, aI_sM, aL_sI, aL_sL, aL_sA, aL_sM, Bparam_0, Bparam_11, Bparam_18, Bparam_20, Bparam_31, Bparam_36, Bparam_54, Bparam_56, Bparam_69, Bparam_74, Bparam_85, Bparam_95, oi_0, oi_1, oi_21, oi_3, oi_6, Pu_cant, Pj_isType, Pj_isWord, Pj_take, Pj_variable, Pu_wrong]; try dsimp only
          try simp only [hR.e2, hR.e14, hR.e15, hR.e17, hR.e18, hR.e36, hR.e42, hR.e49, hR.e62, hR.a3, hR.a6, hR.a51, hR.a19, hR.a63, hR.a64, hR.hp, hm0]
          unfold Qj_param
          try dsimp only
          exact ⟨_, rfl, rfl, Or.inl rfl⟩
        · dsimp only [Option.toList, List.cons_append, List.nil_append, Nat.beq, gI_sI, gI_sL, gI_sA, gI_sM, gL_sI, gL_sL, gL_sA, gL_sM, aI_sI, aI_sL, aI_sA, aI_sM, aL_sI, aL_sL, aL_sA, aL_sM]
          have hR12 : Rj 1 τ12 τ12' := hr12 _ (by (repeat (first | exact hR | refine Rj.i ?_ rfl | refine Rj.a ?_ rfl | refine Rj.m ?_ | refine Rj.s ?_ (by decide) | refine Rj.o1 ?_ (by first | lia | (dsimp only [Nat.beq, gI_sI, gI_sL, gI_sA, gI_sM, gL_sI, gL_sL, gL_sA, gL_sM, aI_sI, aI_sL, aI_sA, aI_sM, aL_sI, aL_sL, aL_sA, aL_sM]; lia)) | refine Rj.o2 ?_ | refine Rj.f1 ?_ (by first | lia | (dsimp only [Nat.beq, gI_sI, gI_sL, gI_sA, gI_sM, gL_sI, gL_sL, gL_sA, gL_sM, aI_sI, aI_sL, aI_sA, aI_sM, aL_sI, aL_sL, aL_sA, aL_sM]; lia)) | refine Rj.f2 ?_ | refine Rj.fs ?_)))
          have ht12 := hk12.2 3 rfl
          have hc12 := hk12.1 2 rfl
          try dsimp only [Nat.beq, gI_sI, gI_sL, gI_sA, gI_sM, gL_sI, gL_sL, gL_sA, gL_sM, aI_sI, aI_sL, aI_sA, aI_sM, aL_sI, aL_sL, aL_sA, aL_sM] at hx12
          try dsimp only [Nat.beq, gI_sI, gI_sL, gI_sA, gI_sM, gL_sI, gL_sL, gL_sA, gL_sM, aI_sI, aI_sL, aI_sA, aI_sM, aL_sI, aL_sL, aL_sA, aL_sM] at ht12
          try dsimp only [Nat.beq, gI_sI, gI_sL, gI_sA, gI_sM, gL_sI, gL_sL, gL_sA, gL_sM, aI_sI, aI_sL, aI_sA, aI_sM, aL_sI, aL_sL, aL_sA, aL_sM] at hc12
          have hh12 := hk12.1 62 rfl
          have hg12 := hk12.1 49 rfl
          try dsimp only [Nat.beq, gI_sI, gI_sL, gI_sA, gI_sM, gL_sI, gL_sL, gL_sA, gL_sM, aI_sI, aI_sL, aI_sA, aI_sM, aL_sI, aL_sL, aL_sA, aL_sM] at hh12
          try dsimp only [Nat.beq, gI_sI, gI_sL, gI_sA, gI_sM, gL_sI, gL_sL, gL_sA, gL_sM, aI_sI, aI_sL, aI_sA, aI_sM, aL_sI, aL_sL, aL_sA, aL_sM] at hg12
          have hz12 := congrFun ht12 (gI τ12 14).toNatClampNeg
          have hg12 : gI τ12 36 = _ ∧ gI τ12 49 = _ := ⟨hk12.1 36 rfl, hk12.1 49 rfl⟩
          try dsimp only [Nat.beq, gI_sI, gI_sL, gI_sA, gI_sM, gL_sI, gL_sL, gL_sA, gL_sM, aI_sI, aI_sL, aI_sA, aI_sM, aL_sI, aL_sL, aL_sA, aL_sM] at hg12
          have hm12 : aI τ12' 39 m.toNatClampNeg = aI τ12 39 m.toNatClampNeg := (congrFun hx12.2.1 _).trans (Eq.trans hm0 (congrFun (hk12.2 39 rfl) _).symm)
          try simp only [hR12.e2, hR12.e14, hR12.e15, hR12.e17, hR12.e18, hR12.e36, hR12.e42, hR12.e49, hR12.e62, hR12.a3, hR12.a6, hR12.a51, hR12.a19, hR12.a63, hR12.a64, hR12.hp, hm0, hm12]
          refine ⟨fun h15 => ⟨(by exact h15), ?_⟩, fun h15 => absurd h15 (by decide)⟩
          clear h15
          refine hB _ _ _ _ _ _ _ _ (fun m16 hm16 => ?_)
          dsimp only [jgo, jwp, jst, jct, rfd, Bparam, Nat.beq, lv_args, rlk, rs1, rs2, rdl, rky, rcd, rno, rsw, Value.category, List.filter, List.take, List.drop, List.reverse, List.reverseAux, List.cons_append, List.nil_append, Option.toList, Int.toNat, Int.reduceToNat, if_pos, if_neg, reduceIte, ↓reduceIte, Nat.reduceAdd, Nat.reduceEqDiff, Nat.reduceBEq, beq_self_eq_true, Bool.not_true, Bool.not_false, Bool.and_true, Bool.and_false, Bool.true_and, Bool.false_and, gI_sI, gI_sL, gI_sA, gI_sM, gL_sI, gL_sL, gL_sA, gL_sM, aI_sI, aI_sL, aI_sA, aI_sM, aL_sI, aL_sL, aL_sA, aL_sM, Bparam_0, Bparam_11, Bparam_18, Bparam_20, Bparam_31, Bparam_36, Bparam_54, Bparam_56, Bparam_69, Bparam_74, Bparam_85, Bparam_95, oi_0, oi_1, oi_21, oi_3, oi_6, Pu_cant, Pj_isType, Pj_isWord, Pj_take, Pj_variable, Pu_wrong]; try dsimp only
          try simp only [hR12.e2, hR12.e14, hR12.e15, hR12.e17, hR12.e18, hR12.e36, hR12.e42, hR12.e49, hR12.e62, hR12.a3, hR12.a6, hR12.a51, hR12.a19, hR12.a63, hR12.a64, hR12.hp, hm0, hm12]
          intro p17 q17
          try simp only [hR12.e2, hR12.e14, hR12.e15, hR12.e17, hR12.e18, hR12.e36, hR12.e42, hR12.e49, hR12.e62, hR12.a3, hR12.a6, hR12.a51, hR12.a19, hR12.a63, hR12.a64, hR12.hp, hm0, hm12]
          refine ⟨fun h18 => ⟨(by exact h18), ?_⟩, fun h18 => ⟨(by exact h18), ?_⟩⟩
          · refine hB _ _ _ _ _ _ _ _ (fun m19 hm19 => ?_)
            dsimp only [jgo, jwp, jst, jct, rfd, Bparam, Nat.beq, lv_args, rlk, rs1, rs2, rdl, rky, rcd, rno, rsw, Value.category, List.filter, List.take, List.drop, List.reverse, List.reverseAux, List.cons_append, List.nil_append, Option.toList, Int.toNat, Int.reduceToNat, if_pos, if_neg, reduceIte, ↓reduceIte, Nat.reduceAdd, Nat.reduceEqDiff, Nat.reduceBEq, beq_self_eq_true, Bool.not_true, Bool.not_false, Bool.and_true, Bool.and_false, Bool.true_and, Bool.false_and, gI_sI, gI_sL, gI_sA, gI_sM, gL_sI, gL_sL, gL_sA, gL_sM, aI_sI, aI_sL, aI_sA, aI_sM, aL_sI, aL_sL, aL_sA, aL_sM, Bparam_0, Bparam_11, Bparam_18, Bparam_20, Bparam_31, Bparam_36, Bparam_54, Bparam_56, Bparam_69, Bparam_74, Bparam_85, Bparam_95, oi_0, oi_1, oi_21, oi_3, oi_6, Pu_cant, Pj_isType, Pj_isWord, Pj_take, Pj_variable, Pu_wrong]; try dsimp only
            try simp only [hR12.e2, hR12.e14, hR12.e15, hR12.e17, hR12.e18, hR12.e36, hR12.e42, hR12.e49, hR12.e62, hR12.a3, hR12.a6, hR12.a51, hR12.a19, hR12.a63, hR12.a64, hR12.hp, hm0, hm12]
            intro p20 q20
            try simp only [hR12.e2, hR12.e14, hR12.e15, hR12.e17, hR12.e18, hR12.e36, hR12.e42, hR12.e49, hR12.e62, hR12.a3, hR12.a6, hR12.a51, hR12.a19, hR12.a63, hR12.a64, hR12.hp, hm0, hm12]
            refine ⟨fun h21 => ⟨(by exact h21), ?_⟩, fun h21 => ⟨(by exact h21), ?_⟩⟩
            · refine hB _ _ _ _ _ _ _ _ (fun m22 hm22 => ?_)
              dsimp only [jgo, jwp, jst, jct, rfd, Bparam, Nat.beq, lv_args, rlk, rs1, rs2, rdl, rky, rcd, rno, rsw, Value.category, List.filter, List.take, List.drop, List.reverse, List.reverseAux, List.cons_append, List.nil_append, Option.toList, Int.toNat, Int.reduceToNat, if_pos, if_neg, reduceIte, ↓reduceIte, Nat.reduceAdd, Nat.reduceEqDiff, Nat.reduceBEq, beq_self_eq_true, Bool.not_true, Bool.not_false, Bool.and_true, Bool.and_false, Bool.true_and, Bool.false_and, gI_sI, gI_sL, gI_sA, gI_sM, gL_sI, gL_sL, gL_sA, gL_sM, aI_sI, aI_sL, aI_sA, aI_sM, aL_sI, aL_sL, aL_sA, aL_sM, Bparam_0, Bparam_11, Bparam_18, Bparam_20, Bparam_31, Bparam_36, Bparam_54, Bparam_56, Bparam_69, Bparam_74, Bparam_85, Bparam_95, oi_0, oi_1, oi_21, oi_3, oi_6, Pu_cant, Pj_isType, Pj_isWord, Pj_take, Pj_variable, Pu_wrong]; try dsimp only
              try simp only [hR12.e2, hR12.e14, hR12.e15, hR12.e17, hR12.e18, hR12.e36, hR12.e42, hR12.e49, hR12.e62, hR12.a3, hR12.a6, hR12.a51, hR12.a19, hR12.a63, hR12.a64, hR12.hp, hm0, hm12]
              intro p23 q23
              try simp only [hR12.e2, hR12.e14, hR12.e15, hR12.e17, hR12.e18, hR12.e36, hR12.e42, hR12.e49, hR12.e62, hR12.a3, hR12.a6, hR12.a51, hR12.a19, hR12.a63, hR12.a64, hR12.hp, hm0, hm12]
              intro p24 q24
              try simp only [hR12.e2, hR12.e14, hR12.e15, hR12.e17, hR12.e18, hR12.e36, hR12.e42, hR12.e49, hR12.e62, hR12.a3, hR12.a6, hR12.a51, hR12.a19, hR12.a63, hR12.a64, hR12.hp, hm0, hm12]
              refine ⟨⟨(by (repeat (first | exact hR12 | refine Rj.i ?_ rfl | refine Rj.a ?_ rfl | refine Rj.m ?_ | refine Rj.s ?_ (by decide) | refine Rj.o1 ?_ (by first | lia | (dsimp only [Nat.beq, gI_sI, gI_sL, gI_sA, gI_sM, gL_sI, gL_sL, gL_sA, gL_sM, aI_sI, aI_sL, aI_sA, aI_sM, aL_sI, aL_sL, aL_sA, aL_sM]; lia)) | refine Rj.o2 ?_ | refine Rj.f1 ?_ (by first | lia | (dsimp only [Nat.beq, gI_sI, gI_sL, gI_sA, gI_sM, gL_sI, gL_sL, gL_sA, gL_sM, aI_sI, aI_sL, aI_sA, aI_sM, aL_sI, aL_sL, aL_sA, aL_sM]; lia)) | refine Rj.f2 ?_ | refine Rj.fs ?_))), by lia⟩, fun w25 τ25 w25' τ25' hq25 => ?_⟩
              obtain ⟨b25, rfl, rfl, hb25⟩ := hq25
              rcases hb25 with rfl | ⟨rfl, hR25, hk25, hx25⟩
              · dsimp only [Option.toList, List.cons_append, List.nil_append, Nat.beq, gI_sI, gI_sL, gI_sA, gI_sM, gL_sI, gL_sL, gL_sA, gL_sM, aI_sI, aI_sL, aI_sA, aI_sM, aL_sI, aL_sL, aL_sA, aL_sM]
                try simp only [hR12.e2, hR12.e14, hR12.e15, hR12.e17, hR12.e18, hR12.e36, hR12.e42, hR12.e49, hR12.e62, hR12.a3, hR12.a6, hR12.a51, hR12.a19, hR12.a63, hR12.a64, hR12.hp, hm0, hm12]
                unfold Qj_param
                try dsimp only
                exact ⟨_, rfl, rfl, Or.inl rfl⟩
              · dsimp only [Option.toList, List.cons_append, List.nil_append, Nat.beq, gI_sI, gI_sL, gI_sA, gI_sM, gL_sI, gL_sL, gL_sA, gL_sM, aI_sI, aI_sL, aI_sA, aI_sM, aL_sI, aL_sL, aL_sA, aL_sM]
                have ht25 := hk25.2 3 rfl
                have hc25 := hk25.1 2 rfl
                try dsimp only [Nat.beq, gI_sI, gI_sL, gI_sA, gI_sM, gL_sI, gL_sL, gL_sA, gL_sM, aI_sI, aI_sL, aI_sA, aI_sM, aL_sI, aL_sL, aL_sA, aL_sM] at hx25
                try dsimp only [Nat.beq, gI_sI, gI_sL, gI_sA, gI_sM, gL_sI, gL_sL, gL_sA, gL_sM, aI_sI, aI_sL, aI_sA, aI_sM, aL_sI, aL_sL, aL_sA, aL_sM] at ht25
                try dsimp only [Nat.beq, gI_sI, gI_sL, gI_sA, gI_sM, gL_sI, gL_sL, gL_sA, gL_sM, aI_sI, aI_sL, aI_sA, aI_sM, aL_sI, aL_sL, aL_sA, aL_sM] at hc25
                have hh25 := hk25.1 62 rfl
                have hg25 := hk25.1 49 rfl
                try dsimp only [Nat.beq, gI_sI, gI_sL, gI_sA, gI_sM, gL_sI, gL_sL, gL_sA, gL_sM, aI_sI, aI_sL, aI_sA, aI_sM, aL_sI, aL_sL, aL_sA, aL_sM] at hh25
                try dsimp only [Nat.beq, gI_sI, gI_sL, gI_sA, gI_sM, gL_sI, gL_sL, gL_sA, gL_sM, aI_sI, aI_sL, aI_sA, aI_sM, aL_sI, aL_sL, aL_sA, aL_sM] at hg25
                have hz25 := congrFun ht25 (gI τ25 14).toNatClampNeg
                try simp only [hR25.e2, hR25.e14, hR25.e15, hR25.e17, hR25.e18, hR25.e36, hR25.e42, hR25.e49, hR25.e62, hR25.a3, hR25.a6, hR25.a51, hR25.a19, hR25.a63, hR25.a64, hR25.hp, hm0, hm12]
                unfold Qj_param
                try dsimp only
                have e1 := congrFun hx25 m.toNatClampNeg
                have e2 := congrFun (hk25.2 39 rfl) m.toNatClampNeg
                have g1 := hk25.1 36 rfl
                have g2 := hk25.1 49 rfl
                try dsimp only [Nat.beq, gI_sI, gI_sL, gI_sA, gI_sM, gL_sI, gL_sL, gL_sA, gL_sM, aI_sI, aI_sL, aI_sA, aI_sM, aL_sI, aL_sL, aL_sA, aL_sM] at e1
                try dsimp only [Nat.beq, gI_sI, gI_sL, gI_sA, gI_sM, gL_sI, gL_sL, gL_sA, gL_sM, aI_sI, aI_sL, aI_sA, aI_sM, aL_sI, aL_sL, aL_sA, aL_sM] at e2
                try dsimp only [Nat.beq, gI_sI, gI_sL, gI_sA, gI_sM, gL_sI, gL_sL, gL_sA, gL_sM, aI_sI, aI_sL, aI_sA, aI_sM, aL_sI, aL_sL, aL_sA, aL_sM] at g1
                try dsimp only [Nat.beq, gI_sI, gI_sL, gI_sA, gI_sM, gL_sI, gL_sL, gL_sA, gL_sM, aI_sI, aI_sL, aI_sA, aI_sM, aL_sI, aL_sL, aL_sA, aL_sM] at g2
                refine ⟨_, rfl, rfl, Or.inr ⟨rfl, by (repeat (first | exact hR25 | refine Rj.i ?_ rfl | refine Rj.a ?_ rfl | refine Rj.m ?_ | refine Rj.s ?_ (by decide) | refine Rj.o1 ?_ (by first | lia | (dsimp only [Nat.beq, gI_sI, gI_sL, gI_sA, gI_sM, gL_sI, gL_sL, gL_sA, gL_sM, aI_sI, aI_sL, aI_sA, aI_sM, aL_sI, aL_sL, aL_sA, aL_sM]; lia)) | refine Rj.o2 ?_ | refine Rj.f1 ?_ (by first | lia | (dsimp only [Nat.beq, gI_sI, gI_sL, gI_sA, gI_sM, gL_sI, gL_sL, gL_sA, gL_sM, aI_sI, aI_sL, aI_sA, aI_sM, aL_sI, aL_sL, aL_sA, aL_sM]; lia)) | refine Rj.f2 ?_ | refine Rj.fs ?_)), ⟨by lia, by lia⟩, ?_⟩⟩
                rw [e1, e2, upd_eq, upd_eq]
            · refine hB _ _ _ _ _ _ _ _ (fun m26 hm26 => ?_)
              dsimp only [jgo, jwp, jst, jct, rfd, Bparam, Nat.beq, lv_args, rlk, rs1, rs2, rdl, rky, rcd, rno, rsw, Value.category, List.filter, List.take, List.drop, List.reverse, List.reverseAux, List.cons_append, List.nil_append, Option.toList, Int.toNat, Int.reduceToNat, if_pos, if_neg, reduceIte, ↓reduceIte, Nat.reduceAdd, Nat.reduceEqDiff, Nat.reduceBEq, beq_self_eq_true, Bool.not_true, Bool.not_false, Bool.and_true, Bool.and_false, Bool.true_and, Bool.false_and, gI_sI, gI_sL, gI_sA, gI_sM, gL_sI, gL_sL, gL_sA, gL_sM, aI_sI, aI_sL, aI_sA, aI_sM, aL_sI, aL_sL, aL_sA, aL_sM, Bparam_0, Bparam_11, Bparam_18, Bparam_20, Bparam_31, Bparam_36, Bparam_54, Bparam_56, Bparam_69, Bparam_74, Bparam_85, Bparam_95, oi_0, oi_1, oi_21, oi_3, oi_6, Pu_cant, Pj_isType, Pj_isWord, Pj_take, Pj_variable, Pu_wrong]; try dsimp only
              try simp only [hR12.e2, hR12.e14, hR12.e15, hR12.e17, hR12.e18, hR12.e36, hR12.e42, hR12.e49, hR12.e62, hR12.a3, hR12.a6, hR12.a51, hR12.a19, hR12.a63, hR12.a64, hR12.hp, hm0, hm12]
              refine ⟨⟨trivial, trivial⟩, fun w27 τ27 w27' τ27' hq27 => ?_⟩
              obtain ⟨rfl, rfl⟩ := hq27
              dsimp only [Option.toList, List.cons_append, List.nil_append, Nat.beq, gI_sI, gI_sL, gI_sA, gI_sM, gL_sI, gL_sL, gL_sA, gL_sM, aI_sI, aI_sL, aI_sA, aI_sM, aL_sI, aL_sL, aL_sA, aL_sM]
              try simp only [hR12.e2, hR12.e14, hR12.e15, hR12.e17, hR12.e18, hR12.e36, hR12.e42, hR12.e49, hR12.e62, hR12.a3, hR12.a6, hR12.a51, hR12.a19, hR12.a63, hR12.a64, hR12.hp, hm0, hm12]
              unfold Qj_param
              try dsimp only
              exact ⟨_, rfl, rfl, Or.inl rfl⟩
          · refine hB _ _ _ _ _ _ _ _ (fun m28 hm28 => ?_)
            dsimp only [jgo, jwp, jst, jct, rfd, Bparam, Nat.beq, lv_args, rlk, rs1, rs2, rdl, rky, rcd, rno, rsw, Value.category, List.filter, List.take, List.drop, List.reverse, List.reverseAux, List.cons_append, List.nil_append, Option.toList, Int.toNat, Int.reduceToNat, if_pos, if_neg, reduceIte, ↓reduceIte, Nat.reduceAdd, Nat.reduceEqDiff, Nat.reduceBEq, beq_self_eq_true, Bool.not_true, Bool.not_false, Bool.and_true, Bool.and_false, Bool.true_and, Bool.false_and, gI_sI, gI_sL, gI_sA, gI_sM, gL_sI, gL_sL, gL_sA, gL_sM, aI_sI, aI_sL, aI_sA, aI_sM, aL_sI, aL_sL, aL_sA, aL_sM, Bparam_0, Bparam_11, Bparam_18, Bparam_20, Bparam_31, Bparam_36, Bparam_54, Bparam_56, Bparam_69, Bparam_74, Bparam_85, Bparam_95, oi_0, oi_1, oi_21, oi_3, oi_6, Pu_cant, Pj_isType, Pj_isWord, Pj_take, Pj_variable, Pu_wrong]; try dsimp only
            try simp only [hR12.e2, hR12.e14, hR12.e15, hR12.e17, hR12.e18, hR12.e36, hR12.e42, hR12.e49, hR12.e62, hR12.a3, hR12.a6, hR12.a51, hR12.a19, hR12.a63, hR12.a64, hR12.hp, hm0, hm12]
            refine ⟨⟨trivial, trivial⟩, fun w29 τ29 w29' τ29' hq29 => ?_⟩
            obtain ⟨rfl, rfl⟩ := hq29
            dsimp only [Option.toList, List.cons_append, List.nil_append, Nat.beq, gI_sI, gI_sL, gI_sA, gI_sM, gL_sI, gL_sL, gL_sA, gL_sM, aI_sI, aI_sL, aI_sA, aI_sM, aL_sI, aL_sL, aL_sA, aL_sM]
            try simp only [hR12.e2, hR12.e14, hR12.e15, hR12.e17, hR12.e18, hR12.e36, hR12.e42, hR12.e49, hR12.e62, hR12.a3, hR12.a6, hR12.a51, hR12.a19, hR12.a63, hR12.a64, hR12.hp, hm0, hm12]
            unfold Qj_param
            try dsimp only
            exact ⟨_, rfl, rfl, Or.inl rfl⟩
    · dsimp only [Option.toList, List.cons_append, List.nil_append, Nat.beq, gI_sI, gI_sL, gI_sA, gI_sM, gL_sI, gL_sL, gL_sA, gL_sM, aI_sI, aI_sL, aI_sA, aI_sM, aL_sI, aL_sL, aL_sA, aL_sM]
      try dsimp only [Nat.beq, gI_sI, gI_sL, gI_sA, gI_sM, gL_sI, gL_sL, gL_sA, gL_sM, aI_sI, aI_sL, aI_sA, aI_sM, aL_sI, aL_sL, aL_sA, aL_sM] at hf2
      try simp only [hR.e2, hR.e14, hR.e15, hR.e17, hR.e18, hR.e36, hR.e42, hR.e49, hR.e62, hR.a3, hR.a6, hR.a51, hR.a19, hR.a63, hR.a64, hR.hp, hm0]
      refine ⟨fun h30 => absurd h30 (by decide), fun h30 => ⟨(by exact h30), ?_⟩⟩
      clear h30
      refine hB _ _ _ _ _ _ _ _ (fun m31 hm31 => ?_)
      dsimp only [jgo, jwp, jst, jct, rfd, Bparam, Nat.beq, lv_args, rlk, rs1, rs2, rdl, rky, rcd, rno, rsw, Value.category, List.filter, List.take, List.drop, List.reverse, List.reverseAux, List.cons_append, List.nil_append, Option.toList, Int.toNat, Int.reduceToNat, if_pos, if_neg, reduceIte, ↓reduceIte, Nat.reduceAdd, Nat.reduceEqDiff, Nat.reduceBEq, beq_self_eq_true, Bool.not_true, Bool.not_false, Bool.and_true, Bool.and_false, Bool.true_and, Bool.false_and, gI_sI, gI_sL, gI_sA, gI_sM, gL_sI, gL_sL, gL_sA, gL_sM, aI_sI, aI_sL, aI_sA, aI_sM, aL_sI, aL_sL, aL_sA, aL_sM, Bparam_0, Bparam_11, Bparam_18, Bparam_20, Bparam_31, Bparam_36, Bparam_54, Bparam_56, Bparam_69, Bparam_74, Bparam_85, Bparam_95, oi_0, oi_1, oi_21, oi_3, oi_6, Pu_cant, Pj_isType, Pj_isWord, Pj_take, Pj_variable, Pu_wrong]; try dsimp only
      try simp only [hR.e2, hR.e14, hR.e15, hR.e17, hR.e18, hR.e36, hR.e42, hR.e49, hR.e62, hR.a3, hR.a6, hR.a51, hR.a19, hR.a63, hR.a64, hR.hp, hm0]
      refine ⟨⟨(Rj.w (md := 1) (by (repeat (first | exact hR | refine Rj.i ?_ rfl | refine Rj.a ?_ rfl | refine Rj.m ?_ | refine Rj.s ?_ (by decide) | refine Rj.o1 ?_ (by first | lia | (dsimp only [Nat.beq, gI_sI, gI_sL, gI_sA, gI_sM, gL_sI, gL_sL, gL_sA, gL_sM, aI_sI, aI_sL, aI_sA, aI_sM, aL_sI, aL_sL, aL_sA, aL_sM]; lia)) | refine Rj.o2 ?_ | refine Rj.f1 ?_ (by first | lia | (dsimp only [Nat.beq, gI_sI, gI_sL, gI_sA, gI_sM, gL_sI, gL_sL, gL_sA, gL_sM, aI_sI, aI_sL, aI_sA, aI_sM, aL_sI, aL_sL, aL_sA, aL_sM]; lia)) | refine Rj.f2 ?_ | refine Rj.fs ?_)))), by lia, by lia⟩, fun w32 τ32 w32' τ32' hq32 => ?_⟩
      obtain ⟨b32, rfl, rfl, hb32⟩ := hq32
      rcases hb32 with rfl | ⟨rfl, hr32, hk32, hx32⟩
      · dsimp only [Option.toList, List.cons_append, List.nil_append, Nat.beq, gI_sI, gI_sL, gI_sA, gI_sM, gL_sI, gL_sL, gL_sA, gL_sM, aI_sI, aI_sL, aI_sA, aI_sM, aL_sI, aL_sL, aL_sA, aL_sM]
        try simp only [hR.e2, hR.e14, hR.e15, hR.e17, hR.e18, hR.e36, hR.e42, hR.e49, hR.e62, hR.a3, hR.a6, hR.a51, hR.a19, hR.a63, hR.a64, hR.hp, hm0]
        refine ⟨fun h33 => absurd h33 (by decide), fun h33 => ⟨(by exact h33), ?_⟩⟩
        clear h33
        refine hB _ _ _ _ _ _ _ _ (fun m34 hm34 => ?_)
        dsimp only [jgo, jwp, jst, jct, rfd, Bparam, Nat.beq, lv_args, rlk, rs1, rs2, rdl, rky, rcd, rno, rsw, Value.category, List.filter, List.take, List.drop, List.reverse, List.reverseAux, List.cons_append, List.nil_append, Option.toList, Int.toNat, Int.reduceToNat, if_pos, if_neg, reduceIte, ↓reduceIte, Nat.reduceAdd, Nat.reduceEqDiff, Nat.reduceBEq, beq_self_eq_true, Bool.not_true, Bool.not_false, Bool.and_true, Bool.and_false, Bool.true_and, Bool.false_and, gI_sI, gI_sL, gI_sA, gI_sM, gL_sI, gL_sL, gL_sA, gL_sM, aI_sI, aI_sL, aI_sA, aI_sM, aL_sI, aL_sL, aL_sA, aL_sM, Bparam_0, Bparam_11, Bparam_18, Bparam_20, Bparam_31, Bparam_36, Bparam_54, Bparam_56, Bparam_69, Bparam_74, Bparam_85, Bparam_95, oi_0, oi_1, oi_21, oi_3, oi_6, Pu_cant, Pj_isType, Pj_isWord, Pj_take, Pj_variable, Pu_wrong]; try dsimp only
        try simp only [hR.e2, hR.e14, hR.e15, hR.e17, hR.e18, hR.e36, hR.e42, hR.e49, hR.e62, hR.a3, hR.a6, hR.a51, hR.a19, hR.a63, hR.a64, hR.hp, hm0]
        unfold Qj_param
        try dsimp only
        exact ⟨_, rfl, rfl, Or.inl rfl⟩
      · dsimp only [Option.toList, List.cons_append, List.nil_append, Nat.beq, gI_sI, gI_sL, gI_sA, gI_sM, gL_sI, gL_sL, gL_sA, gL_sM, aI_sI, aI_sL, aI_sA, aI_sM, aL_sI, aL_sL, aL_sA, aL_sM]
        have hR32 : Rj 1 τ32 τ32' := hr32 _ (by (repeat (first | exact hR | refine Rj.i ?_ rfl | refine Rj.a ?_ rfl | refine Rj.m ?_ | refine Rj.s ?_ (by decide) | refine Rj.o1 ?_ (by first | lia | (dsimp only [Nat.beq, gI_sI, gI_sL, gI_sA, gI_sM, gL_sI, gL_sL, gL_sA, gL_sM, aI_sI, aI_sL, aI_sA, aI_sM, aL_sI, aL_sL, aL_sA, aL_sM]; lia)) | refine Rj.o2 ?_ | refine Rj.f1 ?_ (by first | lia | (dsimp only [Nat.beq, gI_sI, gI_sL, gI_sA, gI_sM, gL_sI, gL_sL, gL_sA, gL_sM, aI_sI, aI_sL, aI_sA, aI_sM, aL_sI, aL_sL, aL_sA, aL_sM]; lia)) | refine Rj.f2 ?_ | refine Rj.fs ?_)))
        have ht32 := hk32.2 3 rfl
        have hc32 := hk32.1 2 rfl
        try dsimp only [Nat.beq, gI_sI, gI_sL, gI_sA, gI_sM, gL_sI, gL_sL, gL_sA, gL_sM, aI_sI, aI_sL, aI_sA, aI_sM, aL_sI, aL_sL, aL_sA, aL_sM] at hx32
        try dsimp only [Nat.beq, gI_sI, gI_sL, gI_sA, gI_sM, gL_sI, gL_sL, gL_sA, gL_sM, aI_sI, aI_sL, aI_sA, aI_sM, aL_sI, aL_sL, aL_sA, aL_sM] at ht32
        try dsimp only [Nat.beq, gI_sI, gI_sL, gI_sA, gI_sM, gL_sI, gL_sL, gL_sA, gL_sM, aI_sI, aI_sL, aI_sA, aI_sM, aL_sI, aL_sL, aL_sA, aL_sM] at hc32
        have hh32 := hk32.1 62 rfl
        have hg32 := hk32.1 49 rfl
        try dsimp only [Nat.beq, gI_sI, gI_sL, gI_sA, gI_sM, gL_sI, gL_sL, gL_sA, gL_sM, aI_sI, aI_sL, aI_sA, aI_sM, aL_sI, aL_sL, aL_sA, aL_sM] at hh32
        try dsimp only [Nat.beq, gI_sI, gI_sL, gI_sA, gI_sM, gL_sI, gL_sL, gL_sA, gL_sM, aI_sI, aI_sL, aI_sA, aI_sM, aL_sI, aL_sL, aL_sA, aL_sM] at hg32
        have hz32 := congrFun ht32 (gI τ32 14).toNatClampNeg
        have hg32 : gI τ32 36 = _ ∧ gI τ32 49 = _ := ⟨hk32.1 36 rfl, hk32.1 49 rfl⟩
        try dsimp only [Nat.beq, gI_sI, gI_sL, gI_sA, gI_sM, gL_sI, gL_sL, gL_sA, gL_sM, aI_sI, aI_sL, aI_sA, aI_sM, aL_sI, aL_sL, aL_sA, aL_sM] at hg32
        have hm32 : aI τ32' 39 m.toNatClampNeg = aI τ32 39 m.toNatClampNeg := (congrFun hx32.2.1 _).trans (Eq.trans hm0 (congrFun (hk32.2 39 rfl) _).symm)
        try simp only [hR32.e2, hR32.e14, hR32.e15, hR32.e17, hR32.e18, hR32.e36, hR32.e42, hR32.e49, hR32.e62, hR32.a3, hR32.a6, hR32.a51, hR32.a19, hR32.a63, hR32.a64, hR32.hp, hm0, hm32]
        refine ⟨fun h35 => ⟨(by exact h35), ?_⟩, fun h35 => absurd h35 (by decide)⟩
        clear h35
        refine hB _ _ _ _ _ _ _ _ (fun m36 hm36 => ?_)
        dsimp only [jgo, jwp, jst, jct, rfd, Bparam, Nat.beq, lv_args, rlk, rs1, rs2, rdl, rky, rcd, rno, rsw, Value.category, List.filter, List.take, List.drop, List.reverse, List.reverseAux, List.cons_append, List.nil_append, Option.toList, Int.toNat, Int.reduceToNat, if_pos, if_neg, reduceIte, ↓reduceIte, Nat.reduceAdd, Nat.reduceEqDiff, Nat.reduceBEq, beq_self_eq_true, Bool.not_true, Bool.not_false, Bool.and_true, Bool.and_false, Bool.true_and, Bool.false_and, gI_sI, gI_sL, gI_sA, gI_sM, gL_sI, gL_sL, gL_sA, gL_sM, aI_sI, aI_sL, aI_sA, aI_sM, aL_sI, aL_sL, aL_sA, aL_sM, Bparam_0, Bparam_11, Bparam_18, Bparam_20, Bparam_31, Bparam_36, Bparam_54, Bparam_56, Bparam_69, Bparam_74, Bparam_85, Bparam_95, oi_0, oi_1, oi_21, oi_3, oi_6, Pu_cant, Pj_isType, Pj_isWord, Pj_take, Pj_variable, Pu_wrong]; try dsimp only
        try simp only [hR32.e2, hR32.e14, hR32.e15, hR32.e17, hR32.e18, hR32.e36, hR32.e42, hR32.e49, hR32.e62, hR32.a3, hR32.a6, hR32.a51, hR32.a19, hR32.a63, hR32.a64, hR32.hp, hm0, hm32]
        refine ⟨⟨(Rj.w (md := 1) (by (repeat (first | exact hR32 | refine Rj.i ?_ rfl | refine Rj.a ?_ rfl | refine Rj.m ?_ | refine Rj.s ?_ (by decide) | refine Rj.o1 ?_ (by first | lia | (dsimp only [Nat.beq, gI_sI, gI_sL, gI_sA, gI_sM, gL_sI, gL_sL, gL_sA, gL_sM, aI_sI, aI_sL, aI_sA, aI_sM, aL_sI, aL_sL, aL_sA, aL_sM]; lia)) | refine Rj.o2 ?_ | refine Rj.f1 ?_ (by first | lia | (dsimp only [Nat.beq, gI_sI, gI_sL, gI_sA, gI_sM, gL_sI, gL_sL, gL_sA, gL_sM, aI_sI, aI_sL, aI_sA, aI_sM, aL_sI, aL_sL, aL_sA, aL_sM]; lia)) | refine Rj.f2 ?_ | refine Rj.fs ?_)))), (by first | exact True.intro | rfl), (by first | exact hR32.hp | trivial)⟩, fun w37 τ37 w37' τ37' hq37 => ?_⟩
        obtain ⟨b37, rfl, rfl, rfl, rfl, hb37⟩ := hq37
        rcases hb37 with rfl | ⟨rfl, hf37⟩
        · dsimp only [Option.toList, List.cons_append, List.nil_append, Nat.beq, gI_sI, gI_sL, gI_sA, gI_sM, gL_sI, gL_sL, gL_sA, gL_sM, aI_sI, aI_sL, aI_sA, aI_sM, aL_sI, aL_sL, aL_sA, aL_sM]
          try simp only [hR32.e2, hR32.e14, hR32.e15, hR32.e17, hR32.e18, hR32.e36, hR32.e42, hR32.e49, hR32.e62, hR32.a3, hR32.a6, hR32.a51, hR32.a19, hR32.a63, hR32.a64, hR32.hp, hm0, hm32]
          refine ⟨fun h38 => absurd h38 (by decide), fun h38 => ⟨(by exact h38), ?_⟩⟩
          clear h38
          refine hB _ _ _ _ _ _ _ _ (fun m39 hm39 => ?_)
          dsimp only [jgo, jwp, jst, jct, rfd, Bparam, Nat.beq, lv_args, rlk, rs1, rs2, rdl, rky, rcd, rno, rsw, Value.category, List.filter, List.take, List.drop, List.reverse, List.reverseAux, List.cons_append, List.nil_append, Option.toList, Int.toNat, Int.reduceToNat, if_pos, if_neg, reduceIte, ↓reduceIte, Nat.reduceAdd, Nat.reduceEqDiff, Nat.reduceBEq, beq_self_eq_true, Bool.not_true, Bool.not_false, Bool.and_true, Bool.and_false, Bool.true_and, Bool.false_and, gI_sI, gI_sL, gI_sA, gI_sM, gL_sI, gL_sL, gL_sA, gL_sM, aI_sI, aI_sL, aI_sA, aI_sM, aL_sI, aL_sL, aL_sA, aL_sM, Bparam_0, Bparam_11, Bparam_18, Bparam_20, Bparam_31, Bparam_36, Bparam_54, Bparam_56, Bparam_69, Bparam_74, Bparam_85, Bparam_95, oi_0, oi_1, oi_21, oi_3, oi_6, Pu_cant, Pj_isType, Pj_isWord, Pj_take, Pj_variable, Pu_wrong]; try dsimp only
          try simp only [hR32.e2, hR32.e14, hR32.e15, hR32.e17, hR32.e18, hR32.e36, hR32.e42, hR32.e49, hR32.e62, hR32.a3, hR32.a6, hR32.a51, hR32.a19, hR32.a63, hR32.a64, hR32.hp, hm0, hm32]
          refine ⟨⟨trivial, trivial⟩, fun w40 τ40 w40' τ40' hq40 => ?_⟩
          obtain ⟨rfl, rfl⟩ := hq40
          dsimp only [Option.toList, List.cons_append, List.nil_append, Nat.beq, gI_sI, gI_sL, gI_sA, gI_sM, gL_sI, gL_sL, gL_sA, gL_sM, aI_sI, aI_sL, aI_sA, aI_sM, aL_sI, aL_sL, aL_sA, aL_sM]
          try simp only [hR32.e2, hR32.e14, hR32.e15, hR32.e17, hR32.e18, hR32.e36, hR32.e42, hR32.e49, hR32.e62, hR32.a3, hR32.a6, hR32.a51, hR32.a19, hR32.a63, hR32.a64, hR32.hp, hm0, hm32]
          unfold Qj_param
          try dsimp only
          exact ⟨_, rfl, rfl, Or.inl rfl⟩
        · dsimp only [Option.toList, List.cons_append, List.nil_append, Nat.beq, gI_sI, gI_sL, gI_sA, gI_sM, gL_sI, gL_sL, gL_sA, gL_sM, aI_sI, aI_sL, aI_sA, aI_sM, aL_sI, aL_sL, aL_sA, aL_sM]
          try dsimp only [Nat.beq, gI_sI, gI_sL, gI_sA, gI_sM, gL_sI, gL_sL, gL_sA, gL_sM, aI_sI, aI_sL, aI_sA, aI_sM, aL_sI, aL_sL, aL_sA, aL_sM] at hf37
          try simp only [hR32.e2, hR32.e14, hR32.e15, hR32.e17, hR32.e18, hR32.e36, hR32.e42, hR32.e49, hR32.e62, hR32.a3, hR32.a6, hR32.a51, hR32.a19, hR32.a63, hR32.a64, hR32.hp, hm0, hm32]
          refine ⟨fun h41 => ⟨(by exact h41), ?_⟩, fun h41 => absurd h41 (by decide)⟩
          clear h41
          refine hB _ _ _ _ _ _ _ _ (fun m42 hm42 => ?_)
          dsimp only [jgo, jwp, jst, jct, rfd, Bparam, Nat.beq, lv_args, rlk, rs1, rs2, rdl, rky, rcd, rno, rsw, Value.category, List.filter, List.take, List.drop, List.reverse, List.reverseAux, List.cons_append, List.nil_append, Option.toList, Int.toNat, Int.reduceToNat, if_pos, if_neg, reduceIte, ↓reduceIte, Nat.reduceAdd, Nat.reduceEqDiff, Nat.reduceBEq, beq_self_eq_true, Bool.not_true, Bool.not_false, Bool.and_true, Bool.and_false, Bool.true_and, Bool.false_and, gI_sI, gI_sL, gI_sA, gI_sM, gL_sI, gL_sL, gL_sA, gL_sM, aI_sI, aI_sL, aI_sA, aI_sM, aL_sI, aL_sL, aL_sA, aL_sM, Bparam_0, Bparam_11, Bparam_18, Bparam_20, Bparam_31, Bparam_36, Bparam_54, Bparam_56, Bparam_69, Bparam_74, Bparam_85, Bparam_95, oi_0, oi_1, oi_21, oi_3, oi_6, Pu_cant, Pj_isType, Pj_isWord, Pj_take, Pj_variable, Pu_wrong]; try dsimp only
          try simp only [hR32.e2, hR32.e14, hR32.e15, hR32.e17, hR32.e18, hR32.e36, hR32.e42, hR32.e49, hR32.e62, hR32.a3, hR32.a6, hR32.a51, hR32.a19, hR32.a63, hR32.a64, hR32.hp, hm0, hm32]
          intro p43 q43
          try simp only [hR32.e2, hR32.e14, hR32.e15, hR32.e17, hR32.e18, hR32.e36, hR32.e42, hR32.e49, hR32.e62, hR32.a3, hR32.a6, hR32.a51, hR32.a19, hR32.a63, hR32.a64, hR32.hp, hm0, hm32]
          refine ⟨⟨(Rj.w (md := 1) (by (repeat (first | exact hR32 | refine Rj.i ?_ rfl | refine Rj.a ?_ rfl | refine Rj.m ?_ | refine Rj.s ?_ (by decide) | refine Rj.o1 ?_ (by first | lia | (dsimp only [Nat.beq, gI_sI, gI_sL, gI_sA, gI_sM, gL_sI, gL_sL, gL_sA, gL_sM, aI_sI, aI_sL, aI_sA, aI_sM, aL_sI, aL_sL, aL_sA, aL_sM]; lia)) | refine Rj.o2 ?_ | refine Rj.f1 ?_ (by first | lia | (dsimp only [Nat.beq, gI_sI, gI_sL, gI_sA, gI_sM, gL_sI, gL_sL, gL_sA, gL_sM, aI_sI, aI_sL, aI_sA, aI_sM, aL_sI, aL_sL, aL_sA, aL_sM]; lia)) | refine Rj.f2 ?_ | refine Rj.fs ?_)))), by lia, by lia⟩, fun w44 τ44 w44' τ44' hq44 => ?_⟩
          obtain ⟨b44, rfl, rfl, hb44⟩ := hq44
          rcases hb44 with rfl | ⟨rfl, hr44, hk44, hx44⟩
          · dsimp only [Option.toList, List.cons_append, List.nil_append, Nat.beq, gI_sI, gI_sL, gI_sA, gI_sM, gL_sI, gL_sL, gL_sA, gL_sM, aI_sI, aI_sL, aI_sA, aI_sM, aL_sI, aL_sL, aL_sA, aL_sM]
            try simp only [hR32.e2, hR32.e14, hR32.e15, hR32.e17, hR32.e18, hR32.e36, hR32.e42, hR32.e49, hR32.e62, hR32.a3, hR32.a6, hR32.a51, hR32.a19, hR32.a63, hR32.a64, hR32.hp, hm0, hm32]
            refine ⟨fun h45 => absurd h45 (by decide), fun h45 => ⟨(by exact h45), ?_⟩⟩
            clear h45
            refine hB _ _ _ _ _ _ _ _ (fun m46 hm46 => ?_)
            dsimp only [jgo, jwp, jst, jct, rfd, Bparam, Nat.beq, lv_args, rlk, rs1, rs2, rdl, rky, rcd, rno, rsw, Value.category, List.filter, List.take, List.drop, List.reverse, List.reverseAux, List.cons_append, List.nil_append, Option.toList, Int.toNat, Int.reduceToNat, if_pos, if_neg, reduceIte, ↓reduceIte, Nat.reduceAdd, Nat.reduceEqDiff, Nat.reduceBEq, beq_self_eq_true, Bool.not_true, Bool.not_false, Bool.and_true, Bool.and_false, Bool.true_and, Bool.false_and, gI_sI, gI_sL, gI_sA, gI_sM, gL_sI, gL_sL, gL_sA, gL_sM, aI_sI, aI_sL, aI_sA, aI_sM, aL_sI, aL_sL, aL_sA, aL_sM, Bparam_0, Bparam_11, Bparam_18, Bparam_20, Bparam_31, Bparam_36, Bparam_54, Bparam_56, Bparam_69, Bparam_74, Bparam_85, Bparam_95, oi_0, oi_1, oi_21, oi_3, oi_6, Pu_cant, Pj_isType, Pj_isWord, Pj_take, Pj_variable, Pu_wrong]; try dsimp only
            try simp only [hR32.e2, hR32.e14, hR32.e15, hR32.e17, hR32.e18, hR32.e36, hR32.e42, hR32.e49, hR32.e62, hR32.a3, hR32.a6, hR32.a51, hR32.a19, hR32.a63, hR32.a64, hR32.hp, hm0, hm32]
            unfold Qj_param
            try dsimp only
            exact ⟨_, rfl, rfl, Or.inl rfl⟩
          · dsimp only [Option.toList, List.cons_append, List.nil_append, Nat.beq, gI_sI, gI_sL, gI_sA, gI_sM, gL_sI, gL_sL, gL_sA, gL_sM, aI_sI, aI_sL, aI_sA, aI_sM, aL_sI, aL_sL, aL_sA, aL_sM]
            have hR44 : Rj 1 τ44 τ44' := hr44 _ (by (repeat (first | exact hR32 | refine Rj.i ?_ rfl | refine Rj.a ?_ rfl | refine Rj.m ?_ | refine Rj.s ?_ (by decide) | refine Rj.o1 ?_ (by first | lia | (dsimp only [Nat.beq, gI_sI, gI_sL, gI_sA, gI_sM, gL_sI, gL_sL, gL_sA, gL_sM, aI_sI, aI_sL, aI_sA, aI_sM, aL_sI, aL_sL, aL_sA, aL_sM]; lia)) | refine Rj.o2 ?_ | refine Rj.f1 ?_ (by first | lia | (dsimp only [Nat.beq, gI_sI, gI_sL, gI_sA, gI_sM, gL_sI, gL_sL, gL_sA, gL_sM, aI_sI, aI_sL, aI_sA, aI_sM, aL_sI, aL_sL, aL_sA, aL_sM]; lia)) | refine Rj.f2 ?_ | refine Rj.fs ?_)))
            have ht44 := hk44.2 3 rfl
            have hc44 := hk44.1 2 rfl
            try dsimp only [Nat.beq, gI_sI, gI_sL, gI_sA, gI_sM, gL_sI, gL_sL, gL_sA, gL_sM, aI_sI, aI_sL, aI_sA, aI_sM, aL_sI, aL_sL, aL_sA, aL_sM] at hx44
            try dsimp only [Nat.beq, gI_sI, gI_sL, gI_sA, gI_sM, gL_sI, gL_sL, gL_sA, gL_sM, aI_sI, aI_sL, aI_sA, aI_sM, aL_sI, aL_sL, aL_sA, aL_sM] at ht44
            try dsimp only [Nat.beq, gI_sI, gI_sL, gI_sA, gI_sM, gL_sI, gL_sL, gL_sA, gL_sM, aI_sI, aI_sL, aI_sA, aI_sM, aL_sI, aL_sL, aL_sA, aL_sM] at hc44
            have hh44 := hk44.1 62 rfl
            have hg44 := hk44.1 49 rfl
            try dsimp only [Nat.beq, gI_sI, gI_sL, gI_sA, gI_sM, gL_sI, gL_sL, gL_sA, gL_sM, aI_sI, aI_sL, aI_sA, aI_sM, aL_sI, aL_sL, aL_sA, aL_sM] at hh44
            try dsimp only [Nat.beq, gI_sI, gI_sL, gI_sA, gI_sM, gL_sI, gL_sL, gL_sA, gL_sM, aI_sI, aI_sL, aI_sA, aI_sM, aL_sI, aL_sL, aL_sA, aL_sM] at hg44
            have hz44 := congrFun ht44 (gI τ44 14).toNatClampNeg
            have hg44 : gI τ44 36 = _ ∧ gI τ44 49 = _ := ⟨hk44.1 36 rfl, hk44.1 49 rfl⟩
            try dsimp only [Nat.beq, gI_sI, gI_sL, gI_sA, gI_sM, gL_sI, gL_sL, gL_sA, gL_sM, aI_sI, aI_sL, aI_sA, aI_sM, aL_sI, aL_sL, aL_sA, aL_sM] at hg44
            have hm44 : aI τ44' 39 m.toNatClampNeg = aI τ44 39 m.toNatClampNeg := (congrFun hx44.2.1 _).trans (Eq.trans hm32 (congrFun (hk44.2 39 rfl) _).symm)
            try simp only [hR44.e2, hR44.e14, hR44.e15, hR44.e17, hR44.e18, hR44.e36, hR44.e42, hR44.e49, hR44.e62, hR44.a3, hR44.a6, hR44.a51, hR44.a19, hR44.a63, hR44.a64, hR44.hp, hm0, hm32, hm44]
            refine ⟨fun h47 => ⟨(by exact h47), ?_⟩, fun h47 => absurd h47 (by decide)⟩
            clear h47
            refine hB _ _ _ _ _ _ _ _ (fun m48 hm48 => ?_)
            dsimp only [jgo, jwp, jst, jct, rfd, Bparam, Nat.beq, lv_args, rlk, rs1, rs2, rdl, rky, rcd, rno, rsw, Value.category, List.filter, List.take, List.drop, List.reverse, List.reverseAux, List.cons_append, List.nil_append, Option.toList, Int.toNat, Int.reduceToNat, if_pos, if_neg, reduceIte, ↓reduceIte, Nat.reduceAdd, Nat.reduceEqDiff, Nat.reduceBEq, beq_self_eq_true, Bool.not_true, Bool.not_false, Bool.and_true, Bool.and_false, Bool.true_and, Bool.false_and, gI_sI, gI_sL, gI_sA, gI_sM, gL_sI, gL_sL, gL_sA, gL_sM, aI_sI, aI_sL, aI_sA, aI_sM, aL_sI, aL_sL, aL_sA, aL_sM, Bparam_0, Bparam_11, Bparam_18, Bparam_20, Bparam_31, Bparam_36, Bparam_54, Bparam_56, Bparam_69, Bparam_74, Bparam_85, Bparam_95, oi_0, oi_1, oi_21, oi_3, oi_6, Pu_cant, Pj_isType, Pj_isWord, Pj_take, Pj_variable, Pu_wrong]; try dsimp only
            try simp only [hR44.e2, hR44.e14, hR44.e15, hR44.e17, hR44.e18, hR44.e36, hR44.e42, hR44.e49, hR44.e62, hR44.a3, hR44.a6, hR44.a51, hR44.a19, hR44.a63, hR44.a64, hR44.hp, hm0, hm32, hm44]
            intro p49 q49
            try simp only [hR44.e2, hR44.e14, hR44.e15, hR44.e17, hR44.e18, hR44.e36, hR44.e42, hR44.e49, hR44.e62, hR44.a3, hR44.a6, hR44.a51, hR44.a19, hR44.a63, hR44.a64, hR44.hp, hm0, hm32, hm44]
            refine ⟨fun h50 => ⟨(by exact h50), ?_⟩, fun h50 => ⟨(by exact h50), ?_⟩⟩
            · refine hB _ _ _ _ _ _ _ _ (fun m51 hm51 => ?_)
              dsimp only [jgo, jwp, jst, jct, rfd, Bparam, Nat.beq, lv_args, rlk, rs1, rs2, rdl, rky, rcd, rno, rsw, Value.category, List.filter, List.take, List.drop, List.reverse, List.reverseAux, List.cons_append, List.nil_append, Option.toList, Int.toNat, Int.reduceToNat, if_pos, if_neg, reduceIte, ↓reduceIte, Nat.reduceAdd, Nat.reduceEqDiff, Nat.reduceBEq, beq_self_eq_true, Bool.not_true, Bool.not_false, Bool.and_true, Bool.and_false, Bool.true_and, Bool.false_and, gI_sI, gI_sL, gI_sA, gI_sM, gL_sI, gL_sL, gL_sA, gL_sM, aI_sI, aI_sL, aI_sA, aI_sM, aL_sI, aL_sL, aL_sA, aL_sM, Bparam_0, Bparam_11, Bparam_18, Bparam_20, Bparam_31, Bparam_36, Bparam_54, Bparam_56, Bparam_69, Bparam_74, Bparam_85, Bparam_95, oi_0, oi_1, oi_21, oi_3, oi_6, Pu_cant, Pj_isType, Pj_isWord, Pj_take, Pj_variable, Pu_wrong]; try dsimp only
              try simp only [hR44.e2, hR44.e14, hR44.e15, hR44.e17, hR44.e18, hR44.e36, hR44.e42, hR44.e49, hR44.e62, hR44.a3, hR44.a6, hR44.a51, hR44.a19, hR44.a63, hR44.a64, hR44.hp, hm0, hm32, hm44]
              intro p52 q52
              try simp only [hR44.e2, hR44.e14, hR44.e15, hR44.e17, hR44.e18, hR44.e36, hR44.e42, hR44.e49, hR44.e62, hR44.a3, hR44.a6, hR44.a51, hR44.a19, hR44.a63, hR44.a64, hR44.hp, hm0, hm32, hm44]
              refine ⟨fun h53 => ⟨(by exact h53), ?_⟩, fun h53 => ⟨(by exact h53), ?_⟩⟩
              · refine hB _ _ _ _ _ _ _ _ (fun m54 hm54 => ?_)
                dsimp only [jgo, jwp, jst, jct, rfd, Bparam, Nat.beq, lv_args, rlk, rs1, rs2, rdl, rky, rcd, rno, rsw, Value.category, List.filter, List.take, List.drop, List.reverse, List.reverseAux, List.cons_append, List.nil_append, Option.toList, Int.toNat, Int.reduceToNat, if_pos, if_neg, reduceIte, ↓reduceIte, Nat.reduceAdd, Nat.reduceEqDiff, Nat.reduceBEq, beq_self_eq_true, Bool.not_true, Bool.not_false, Bool.and_true, Bool.and_false, Bool.true_and, Bool.false_and, gI_sI, gI_sL, gI_sA, gI_sM, gL_sI, gL_sL, gL_sA, gL_sM, aI_sI, aI_sL, aI_sA, aI_sM, aL_sI, aL_sL, aL_sA, aL_sM, Bparam_0, Bparam_11, Bparam_18, Bparam_20, Bparam_31, Bparam_36, Bparam_54, Bparam_56, Bparam_69, Bparam_74, Bparam_85, Bparam_95, oi_0, oi_1, oi_21, oi_3, oi_6, Pu_cant, Pj_isType, Pj_isWord, Pj_take, Pj_variable, Pu_wrong]; try dsimp only
                try simp only [hR44.e2, hR44.e14, hR44.e15, hR44.e17, hR44.e18, hR44.e36, hR44.e42, hR44.e49, hR44.e62, hR44.a3, hR44.a6, hR44.a51, hR44.a19, hR44.a63, hR44.a64, hR44.hp, hm0, hm32, hm44]
                intro p55 q55
                try simp only [hR44.e2, hR44.e14, hR44.e15, hR44.e17, hR44.e18, hR44.e36, hR44.e42, hR44.e49, hR44.e62, hR44.a3, hR44.a6, hR44.a51, hR44.a19, hR44.a63, hR44.a64, hR44.hp, hm0, hm32, hm44]
                intro p56 q56
                try simp only [hR44.e2, hR44.e14, hR44.e15, hR44.e17, hR44.e18, hR44.e36, hR44.e42, hR44.e49, hR44.e62, hR44.a3, hR44.a6, hR44.a51, hR44.a19, hR44.a63, hR44.a64, hR44.hp, hm0, hm32, hm44]
                refine ⟨⟨(by (repeat (first | exact hR44 | refine Rj.i ?_ rfl | refine Rj.a ?_ rfl | refine Rj.m ?_ | refine Rj.s ?_ (by decide) | refine Rj.o1 ?_ (by first | lia | (dsimp only [Nat.beq, gI_sI, gI_sL, gI_sA, gI_sM, gL_sI, gL_sL, gL_sA, gL_sM, aI_sI, aI_sL, aI_sA, aI_sM, aL_sI, aL_sL, aL_sA, aL_sM]; lia)) | refine Rj.o2 ?_ | refine Rj.f1 ?_ (by first | lia | (dsimp only [Nat.beq, gI_sI, gI_sL, gI_sA, gI_sM, gL_sI, gL_sL, gL_sA, gL_sM, aI_sI, aI_sL, aI_sA, aI_sM, aL_sI, aL_sL, aL_sA, aL_sM]; lia)) | refine Rj.f2 ?_ | refine Rj.fs ?_))), by lia⟩, fun w57 τ57 w57' τ57' hq57 => ?_⟩
                obtain ⟨b57, rfl, rfl, hb57⟩ := hq57
                rcases hb57 with rfl | ⟨rfl, hR57, hk57, hx57⟩
                · dsimp only [Option.toList, List.cons_append, List.nil_append, Nat.beq, gI_sI, gI_sL, gI_sA, gI_sM, gL_sI, gL_sL, gL_sA, gL_sM, aI_sI, aI_sL, aI_sA, aI_sM, aL_sI, aL_sL, aL_sA, aL_sM]
                  try simp only [hR44.e2, hR44.e14, hR44.e15, hR44.e17, hR44.e18, hR44.e36, hR44.e42, hR44.e49, hR44.e62, hR44.a3, hR44.a6, hR44.a51, hR44.a19, hR44.a63, hR44.a64, hR44.hp, hm0, hm32, hm44]
                  unfold Qj_param
                  try dsimp only
                  exact ⟨_, rfl, rfl, Or.inl rfl⟩
                · dsimp only [Option.toList, List.cons_append, List.nil_append, Nat.beq, gI_sI, gI_sL, gI_sA, gI_sM, gL_sI, gL_sL, gL_sA, gL_sM, aI_sI, aI_sL, aI_sA, aI_sM, aL_sI, aL_sL, aL_sA, aL_sM]
                  have ht57 := hk57.2 3 rfl
                  have hc57 := hk57.1 2 rfl
                  try dsimp only [Nat.beq, gI_sI, gI_sL, gI_sA, gI_sM, gL_sI, gL_sL, gL_sA, gL_sM, aI_sI, aI_sL, aI_sA, aI_sM, aL_sI, aL_sL, aL_sA, aL_sM] at hx57
                  try dsimp only [Nat.beq, gI_sI, gI_sL, gI_sA, gI_sM, gL_sI, gL_sL, gL_sA, gL_sM, aI_sI, aI_sL, aI_sA, aI_sM, aL_sI, aL_sL, aL_sA, aL_sM] at ht57
                  try dsimp only [Nat.beq, gI_sI, gI_sL, gI_sA, gI_sM, gL_sI, gL_sL, gL_sA, gL_sM, aI_sI, aI_sL, aI_sA, aI_sM, aL_sI, aL_sL, aL_sA, aL_sM] at hc57
                  have hh57 := hk57.1 62 rfl
                  have hg57 := hk57.1 49 rfl
                  try dsimp only [Nat.beq, gI_sI, gI_sL, gI_sA, gI_sM, gL_sI, gL_sL, gL_sA, gL_sM, aI_sI, aI_sL, aI_sA, aI_sM, aL_sI, aL_sL, aL_sA, aL_sM] at hh57
                  try dsimp only [Nat.beq, gI_sI, gI_sL, gI_sA, gI_sM, gL_sI, gL_sL, gL_sA, gL_sM, aI_sI, aI_sL, aI_sA, aI_sM, aL_sI, aL_sL, aL_sA, aL_sM] at hg57
                  have hz57 := congrFun ht57 (gI τ57 14).toNatClampNeg
                  try simp only [hR57.e2, hR57.e14, hR57.e15, hR57.e17, hR57.e18, hR57.e36, hR57.e42, hR57.e49, hR57.e62, hR57.a3, hR57.a6, hR57.a51, hR57.a19, hR57.a63, hR57.a64, hR57.hp, hm0, hm32, hm44]
                  unfold Qj_param
                  try dsimp only
                  have e1 := congrFun hx57 m.toNatClampNeg
                  have e2 := congrFun (hk57.2 39 rfl) m.toNatClampNeg
                  have g1 := hk57.1 36 rfl
                  have g2 := hk57.1 49 rfl
                  try dsimp only [Nat.beq, gI_sI, gI_sL, gI_sA, gI_sM, gL_sI, gL_sL, gL_sA, gL_sM, aI_sI, aI_sL, aI_sA, aI_sM, aL_sI, aL_sL, aL_sA, aL_sM] at e1
                  try dsimp only [Nat.beq, gI_sI, gI_sL, gI_sA, gI_sM, gL_sI, gL_sL, gL_sA, gL_sM, aI_sI, aI_sL, aI_sA, aI_sM, aL_sI, aL_sL, aL_sA, aL_sM] at e2
                  try dsimp only [Nat.beq, gI_sI, gI_sL, gI_sA, gI_sM, gL_sI, gL_sL, gL_sA, gL_sM, aI_sI, aI_sL, aI_sA, aI_sM, aL_sI, aL_sL, aL_sA, aL_sM] at g1
                  try dsimp only [Nat.beq, gI_sI, gI_sL, gI_sA, gI_sM, gL_sI, gL_sL, gL_sA, gL_sM, aI_sI, aI_sL, aI_sA, aI_sM, aL_sI, aL_sL, aL_sA, aL_sM] at g2
                  refine ⟨_, rfl, rfl, Or.inr ⟨rfl, by (repeat (first | exact hR57 | refine Rj.i ?_ rfl | refine Rj.a ?_ rfl | refine Rj.m ?_ | refine Rj.s ?_ (by decide) | refine Rj.o1 ?_ (by first | lia | (dsimp only [Nat.beq, gI_sI, gI_sL, gI_sA, gI_sM, gL_sI, gL_sL, gL_sA, gL_sM, aI_sI, aI_sL, aI_sA, aI_sM, aL_sI, aL_sL, aL_sA, aL_sM]; lia)) | refine Rj.o2 ?_ | refine Rj.f1 ?_ (by first | lia | (dsimp only [Nat.beq, gI_sI, gI_sL, gI_sA, gI_sM, gL_sI, gL_sL, gL_sA, gL_sM, aI_sI, aI_sL, aI_sA, aI_sM, aL_sI, aL_sL, aL_sA, aL_sM]; lia)) | refine Rj.f2 ?_ | refine Rj.fs ?_)), ⟨by lia, by lia⟩, ?_⟩⟩
                  rw [e1, e2, upd_eq, upd_eq]
              · refine hB _ _ _ _ _ _ _ _ (fun m58 hm58 => ?_)
                dsimp only [jgo, jwp, jst, jct, rfd, Bparam, Nat.beq, lv_args, rlk, rs1, rs2, rdl, rky, rcd, rno, rsw, Value.category, List.filter, List.take, List.drop, List.reverse, List.reverseAux, List.cons_append, List.nil_append, Option.toList, Int.toNat, Int.reduceToNat, if_pos, if_neg, reduceIte, ↓reduceIte, Nat.reduceAdd, Nat.reduceEqDiff, Nat.reduceBEq, beq_self_eq_true, Bool.not_true, Bool.not_false, Bool.and_true, Bool.and_false, Bool.true_and, Bool.false_and, gI_sI, gI_sL, gI_sA, gI_sM, gL_sI, gL_sL, gL_sA, gL_sM, aI_sI, aI_sL, aI_sA, aI_sM, aL_sI, aL_sL, aL_sA, aL_sM, Bparam_0, Bparam_11, Bparam_18, Bparam_20, Bparam_31, Bparam_36, Bparam_54, Bparam_56, Bparam_69, Bparam_74, Bparam_85, Bparam_95, oi_0, oi_1, oi_21, oi_3, oi_6, Pu_cant, Pj_isType, Pj_isWord, Pj_take, Pj_variable, Pu_wrong]; try dsimp only
                try simp only [hR44.e2, hR44.e14, hR44.e15, hR44.e17, hR44.e18, hR44.e36, hR44.e42, hR44.e49, hR44.e62, hR44.a3, hR44.a6, hR44.a51, hR44.a19, hR44.a63, hR44.a64, hR44.hp, hm0, hm32, hm44]
                refine ⟨⟨trivial, trivial⟩, fun w59 τ59 w59' τ59' hq59 => ?_⟩
                obtain ⟨rfl, rfl⟩ := hq59
                dsimp only [Option.toList, List.cons_append, List.nil_append, Nat.beq, gI_sI, gI_sL, gI_sA, gI_sM, gL_sI, gL_sL, gL_sA, gL_sM, aI_sI, aI_sL, aI_sA, aI_sM, aL_sI, aL_sL, aL_sA, aL_sM]
                try simp only [hR44.e2, hR44.e14, hR44.e15, hR44.e17, hR44.e18, hR44.e36, hR44.e42, hR44.e49, hR44.e62, hR44.a3, hR44.a6, hR44.a51, hR44.a19, hR44.a63, hR44.a64, hR44.hp, hm0, hm32, hm44]
                unfold Qj_param
                try dsimp only
                exact ⟨_, rfl, rfl, Or.inl rfl⟩
            · refine hB _ _ _ _ _ _ _ _ (fun m60 hm60 => ?_)
              dsimp only [jgo, jwp, jst, jct, rfd, Bparam, Nat.beq, lv_args, rlk, rs1, rs2, rdl, rky, rcd, rno, rsw, Value.category, List.filter, List.take, List.drop, List.reverse, List.reverseAux, List.cons_append, List.nil_append, Option.toList, Int.toNat, Int.reduceToNat, if_pos, if_neg, reduceIte, ↓reduceIte, Nat.reduceAdd, Nat.reduceEqDiff, Nat.reduceBEq, beq_self_eq_true, Bool.not_true, Bool.not_false, Bool.and_true, Bool.and_false, Bool.true_and, Bool.false_and, gI_sI, gI_sL, gI_sA, gI_sM, gL_sI, gL_sL, gL_sA, gL_sM, aI_sI, aI_sL, aI_sA, aI_sM, aL_sI, aL_sL, aL_sA, aL_sM, Bparam_0, Bparam_11, Bparam_18, Bparam_20, Bparam_31, Bparam_36, Bparam_54, Bparam_56, Bparam_69, Bparam_74, Bparam_85, Bparam_95, oi_0, oi_1, oi_21, oi_3, oi_6, Pu_cant, Pj_isType, Pj_isWord, Pj_take, Pj_variable, Pu_wrong]; try dsimp only
              try simp only [hR44.e2, hR44.e14, hR44.e15, hR44.e17, hR44.e18, hR44.e36, hR44.e42, hR44.e49, hR44.e62, hR44.a3, hR44.a6, hR44.a51, hR44.a19, hR44.a63, hR44.a64, hR44.hp, hm0, hm32, hm44]
              refine ⟨⟨trivial, trivial⟩, fun w61 τ61 w61' τ61' hq61 => ?_⟩
              obtain ⟨rfl, rfl⟩ := hq61
              dsimp only [Option.toList, List.cons_append, List.nil_append, Nat.beq, gI_sI, gI_sL, gI_sA, gI_sM, gL_sI, gL_sL, gL_sA, gL_sM, aI_sI, aI_sL, aI_sA, aI_sM, aL_sI, aL_sL, aL_sA, aL_sM]
              try simp only [hR44.e2, hR44.e14, hR44.e15, hR44.e17, hR44.e18, hR44.e36, hR44.e42, hR44.e49, hR44.e62, hR44.a3, hR44.a6, hR44.a51, hR44.a19, hR44.a63, hR44.a64, hR44.hp, hm0, hm32, hm44]
              unfold Qj_param
              try dsimp only
              exact ⟨_, rfl, rfl, Or.inl rfl⟩
  next => exact hP.elim
def Pj_declaration : JPr := fun A1 A2 σ ρ => match A1, A2 with
  | [.int k], [.int k'] => Rj 1 σ ρ
  | _, _ => False
def Qj_declaration : JQr := fun A1 A2 σ ρ w τ w' τ' => match A1, A2 with
  | [.int k], [.int k'] => ∃ b : Int32, w = some (.int b) ∧ w' = some (.int b) ∧ (b = 0 ∨ (b = 1 ∧ Rj 1 τ τ' ∧ Kx σ τ))
  | _, _ => False
set_option maxRecDepth 100000 in
set_option maxHeartbeats 4000000 in
theorem j_declaration : JMet 48 Pj_declaration Qj_declaration := by
  refine JMet.by Bdeclaration [(13, (fun A1 A2 σ ρ => Pu_cant A1 σ ∧ Pu_cant A2 ρ), (fun A1 A2 σ ρ w τ w' τ' => Qu_cant A1 σ w τ ∧ Qu_cant A2 ρ w' τ')), (20, (fun A1 A2 σ ρ => Pu_emit A1 σ ∧ Pu_emit A2 ρ), (fun A1 A2 σ ρ w τ w' τ' => Qu_emit A1 σ w τ ∧ Qu_emit A2 ρ w' τ')), (27, Pj_expression, Qj_expression), (14, Pj_isSign, Qj_isSign), (23, Pj_isType, Qj_isType), (15, Pj_isWord, Qj_isWord), (17, Pj_take, Qj_take), (40, Pj_variable, Qj_variable)] rfl (jcc (JMet.u u_cant) (jcc (JMet.u u_emit) (jcc j_expression (jcc j_isSign (jcc j_isType (jcc j_isWord (jcc j_take (jcc j_variable jc0)))))))) ?_
  intro A1 A2 σ ρ hP K hB hW
  unfold Pj_declaration at hP
  split at hP
  next k k' =>
    have hR := hP
    intro n0
    refine hB _ _ _ _ _ _ _ _ (fun m1 hm1 => ?_)
    dsimp only [jgo, jwp, jst, jct, rfd, Bdeclaration, Nat.beq, lv_args, rlk, rs1, rs2, rdl, rky, rcd, rno, rsw, Value.category, List.filter, List.take, List.drop, List.reverse, List.reverseAux, List.cons_append, List.nil_append, Option.toList, Int.toNat, Int.reduceToNat, if_pos, if_neg, reduceIte, ↓reduceIte, Nat.reduceAdd, Nat.reduceEqDiff, Nat.reduceBEq, beq_self_eq_true, Bool.not_true, Bool.not_false, Bool.and_true, Bool.and_false, Bool.true_and, Bool.false_and, gI_sI, gI_sL, gI_sA, gI_sM, gL_sI, gL_sL, gL_sA, gL_sM, aI_sI, aI_sL, aI_sA, aI_sM, aL_sI, aL_sL, aL_sA, aL_sM, Bdeclaration_0, Bdeclaration_11, Bdeclaration_18, Bdeclaration_20, Bdeclaration_31, Bdeclaration_36, Bdeclaration_53, Bdeclaration_55, Bdeclaration_68, Bdeclaration_73, Bdeclaration_95, Bdeclaration_97, Bdeclaration_110, Bdeclaration_114, Bdeclaration_119, Bdeclaration_124, Bdeclaration_147, Bdeclaration_154, Bdeclaration_156, Bdeclaration_179, Bdeclaration_183, Bdeclaration_184, oi_0, oi_1, oi_2, oi_21, oi_22, oi_61, Pu_cant, Pu_emit, Pj_expression, Pj_isSign, Pj_isType, Pj_isWord, Pj_take, Pj_variable]; try dsimp only
    try simp only [hR.e2, hR.e14, hR.e15, hR.e17, hR.e18, hR.e36, hR.e42, hR.e49, hR.e62, hR.a3, hR.a6, hR.a51, hR.a19, hR.a63, hR.a64, hR.hp]
    refine ⟨⟨(Rj.w (md := 1) (by (repeat (first | exact hR | refine Rj.i ?_ rfl | refine Rj.a ?_ rfl | refine Rj.m ?_ | refine Rj.s ?_ (by decide) | refine Rj.o1 ?_ (by first | lia | (dsimp only [Nat.beq, gI_sI, gI_sL, gI_sA, gI_sM, gL_sI, gL_sL, gL_sA, gL_sM, aI_sI, aI_sL, aI_sA, aI_sM, aL_sI, aL_sL, aL_sA, aL_sM]; lia)) | refine Rj.o2 ?_ | refine Rj.f1 ?_ (by first | lia | (dsimp only [Nat.beq, gI_sI, gI_sL, gI_sA, gI_sM, gL_sI, gL_sL, gL_sA, gL_sM, aI_sI, aI_sL, aI_sA, aI_sM, aL_sI, aL_sL, aL_sA, aL_sM]; lia)) | refine Rj.f2 ?_ | refine Rj.fs ?_)))), (by first | exact True.intro | rfl)⟩, fun w2 τ2 w2' τ2' hq2 => ?_⟩
    obtain ⟨b2, rfl, rfl, rfl, rfl, hb2⟩ := hq2
    rcases hb2 with rfl | ⟨rfl, hf2⟩
    · dsimp only [Option.toList, List.cons_append, List.nil_append, Nat.beq, gI_sI, gI_sL, gI_sA, gI_sM, gL_sI, gL_sL, gL_sA, gL_sM, aI_sI, aI_sL, aI_sA, aI_sM, aL_sI, aL_sL, aL_sA, aL_sM]
      try simp only [hR.e2, hR.e14, hR.e15, hR.e17, hR.e18, hR.e36, hR.e42, hR.e49, hR.e62, hR.a3, hR.a6, hR.a51, hR.a19, hR.a63, hR.a64, hR.hp]
      refine ⟨fun h3 => ⟨(by exact h3), ?_⟩, fun h3 => absurd h3 (by decide)⟩
      clear h3
      refine hB _ _ _ _ _ _ _ _ (fun m4 hm4 => ?_)
      dsimp only [jgo, jwp, jst, jct, rfd, Bdeclaration, Nat.beq, lv_args, rlk, rs1, rs2, rdl, rky, rcd, rno, rsw, Value.category, List.filter, List.take, List.drop, List.reverse, List.reverseAux, List.cons_append, List.nil_append, Option.toList, Int.toNat, Int.reduceToNat, if_pos, if_neg, reduceIte, ↓reduceIte, Nat.reduceAdd, Nat.reduceEqDiff, Nat.reduceBEq, beq_self_eq_true, Bool.not_true, Bool.not_false, Bool.and_true, Bool.and_false, Bool.true_and, Bool.false_and, gI_sI, gI_sL, gI_sA, gI_sM, gL_sI, gL_sL, gL_sA, gL_sM, aI_sI, aI_sL, aI_sA, aI_sM, aL_sI, aL_sL, aL_sA, aL_sM, Bdeclaration_0, Bdeclaration_11, Bdeclaration_18, Bdeclaration_20, Bdeclaration_31, Bdeclaration_36, Bdeclaration_53, Bdeclaration_55, Bdeclaration_68, Bdeclaration_73, Bdeclaration_95, Bdeclaration_97, Bdeclaration_110, Bdeclaration_114, Bdeclaration_119, Bdeclaration_124, Bdeclaration_147, Bdeclaration_154, Bdeclaration_156, Bdeclaration_179, Bdeclaration_183, Bdeclaration_184, oi_0, oi_1, oi_2, oi_21, oi_22, oi_61, Pu_cant, Pu_emit, Pj_expression, Pj_isSign, Pj_isType, Pj_isWord, Pj_take, Pj_variable]; try dsimp only
      try simp only [hR.e2, hR.e14, hR.e15, hR.e17, hR.e18, hR.e36, hR.e42, hR.e49, hR.e62, hR.a3, hR.a6, hR.a51, hR.a19, hR.a63, hR.a64, hR.hp]
      refine ⟨⟨(Rj.w (md := 1) (by (repeat (first | exact hR | refine Rj.i ?_ rfl | refine Rj.a ?_ rfl | refine Rj.m ?_ | refine Rj.s ?_ (by decide) | refine Rj.o1 ?_ (by first | lia | (dsimp only [Nat.beq, gI_sI, gI_sL, gI_sA, gI_sM, gL_sI, gL_sL, gL_sA, gL_sM, aI_sI, aI_sL, aI_sA, aI_sM, aL_sI, aL_sL, aL_sA, aL_sM]; lia)) | refine Rj.o2 ?_ | refine Rj.f1 ?_ (by first | lia | (dsimp only [Nat.beq, gI_sI, gI_sL, gI_sA, gI_sM, gL_sI, gL_sL, gL_sA, gL_sM, aI_sI, aI_sL, aI_sA, aI_sM, aL_sI, aL_sL, aL_sA, aL_sM]; lia)) | refine Rj.f2 ?_ | refine Rj.fs ?_)))), (by first | exact True.intro | rfl), (by first | exact hR.hp | trivial)⟩, fun w5 τ5 w5' τ5' hq5 => ?_⟩
      obtain ⟨b5, rfl, rfl, rfl, rfl, hb5⟩ := hq5
      rcases hb5 with rfl | ⟨rfl, hf5⟩
      · dsimp only [Option.toList, List.cons_append, List.nil_append, Nat.beq, gI_sI, gI_sL, gI_sA, gI_sM, gL_sI, gL_sL, gL_sA, gL_sM, aI_sI, aI_sL, aI_sA, aI_sM, aL_sI, aL_sL, aL_sA, aL_sM]
        try simp only [hR.e2, hR.e14, hR.e15, hR.e17, hR.e18, hR.e36, hR.e42, hR.e49, hR.e62, hR.a3, hR.a6, hR.a51, hR.a19, hR.a63, hR.a64, hR.hp]
        refine ⟨fun h6 => absurd h6 (by decide), fun h6 => ⟨(by exact h6), ?_⟩⟩
        clear h6
        refine hB _ _ _ _ _ _ _ _ (fun m7 hm7 => ?_)
        dsimp only [jgo, jwp, jst, jct, rfd, Bdeclaration, Nat.beq, lv_args, rlk, rs1, rs2, rdl, rky, rcd, rno, rsw, Value.category, List.filter, List.take, List.drop, List.reverse, List.reverseAux, List.cons_append, List.nil_append, Option.toList, Int.toNat, Int.reduceToNat, if_pos, if_neg, reduceIte, ↓reduceIte, Nat.reduceAdd, Nat.reduceEqDiff, Nat.reduceBEq, beq_self_eq_true, Bool.not_true, Bool.not_false, Bool.and_true, Bool.and_false, Bool.true_and, Bool.false_and, gI_sI, gI_sL, gI_sA, gI_sM, gL_sI, gL_sL, gL_sA, gL_sM, aI_sI, aI_sL, aI_sA, aI_sM, aL_sI, aL_sL, aL_sA, aL_sM, Bdeclaration_0, Bdeclaration_11, Bdeclaration_18, Bdeclaration_20, Bdeclaration_31, Bdeclaration_36, Bdeclaration_53, Bdeclaration_55, Bdeclaration_68, Bdeclaration_73, Bdeclaration_95, Bdeclaration_97, Bdeclaration_110, Bdeclaration_114, Bdeclaration_119, Bdeclaration_124, Bdeclaration_147, Bdeclaration_154, Bdeclaration_156, Bdeclaration_179, Bdeclaration_183, Bdeclaration_184, oi_0, oi_1, oi_2, oi_21, oi_22, oi_61, Pu_cant, Pu_emit, Pj_expression, Pj_isSign, Pj_isType, Pj_isWord, Pj_take, Pj_variable]; try dsimp only
        try simp only [hR.e2, hR.e14, hR.e15, hR.e17, hR.e18, hR.e36, hR.e42, hR.e49, hR.e62, hR.a3, hR.a6, hR.a51, hR.a19, hR.a63, hR.a64, hR.hp]
        refine ⟨⟨trivial, trivial⟩, fun w8 τ8 w8' τ8' hq8 => ?_⟩
        obtain ⟨rfl, rfl⟩ := hq8
        dsimp only [Option.toList, List.cons_append, List.nil_append, Nat.beq, gI_sI, gI_sL, gI_sA, gI_sM, gL_sI, gL_sL, gL_sA, gL_sM, aI_sI, aI_sL, aI_sA, aI_sM, aL_sI, aL_sL, aL_sA, aL_sM]
        try simp only [hR.e2, hR.e14, hR.e15, hR.e17, hR.e18, hR.e36, hR.e42, hR.e49, hR.e62, hR.a3, hR.a6, hR.a51, hR.a19, hR.a63, hR.a64, hR.hp]
        unfold Qj_declaration
        try dsimp only
        exact ⟨_, rfl, rfl, Or.inl rfl⟩
      · dsimp only [Option.toList, List.cons_append, List.nil_append, Nat.beq, gI_sI, gI_sL, gI_sA, gI_sM, gL_sI, gL_sL, gL_sA, gL_sM, aI_sI, aI_sL, aI_sA, aI_sM, aL_sI, aL_sL, aL_sA, aL_sM]
        try dsimp only [Nat.beq, gI_sI, gI_sL, gI_sA, gI_sM, gL_sI, gL_sL, gL_sA, gL_sM, aI_sI, aI_sL, aI_sA, aI_sM, aL_sI, aL_sL, aL_sA, aL_sM] at hf5
        try simp only [hR.e2, hR.e14, hR.e15, hR.e17, hR.e18, hR.e36, hR.e42, hR.e49, hR.e62, hR.a3, hR.a6, hR.a51, hR.a19, hR.a63, hR.a64, hR.hp]
        refine ⟨fun h9 => ⟨(by exact h9), ?_⟩, fun h9 => absurd h9 (by decide)⟩
        clear h9
        refine hB _ _ _ _ _ _ _ _ (fun m10 hm10 => ?_)
        dsimp only [jgo, jwp, jst, jct, rfd, Bdeclaration, Nat.beq, lv_args, rlk, rs1, rs2, rdl, rky, rcd, rno, rsw, Value.category, List.filter, List.take, List.drop, List.reverse, List.reverseAux, List.cons_append, List.nil_append, Option.toList, Int.toNat, Int.reduceToNat, if_pos, if_neg, reduceIte, ↓reduceIte, Nat.reduceAdd, Nat.reduceEqDiff, Nat.reduceBEq, beq_self_eq_true, Bool.not_true, Bool.not_false, Bool.and_true, Bool.and_false, Bool.true_and, Bool.false_and, gI_sI, gI_sL, gI_sA, gI_sM, gL_sI, gL_sL, gL_sA, gL_sM, aI_sI, aI_sL, aI_sA, aI_sM, aL_sI, aL_sL, aL_sA, aL_sM, Bdeclaration_0, Bdeclaration_11, Bdeclaration_18, Bdeclaration_20, Bdeclaration_31, Bdeclaration_36, Bdeclaration_53, Bdeclaration_55, Bdeclaration_68, Bdeclaration_73, Bdeclaration_95, Bdeclaration_97, Bdeclaration_110, Bdeclaration_114, Bdeclaration_119, Bdeclaration_124, Bdeclaration_147, Bdeclaration_154, Bdeclaration_156, Bdeclaration_179, Bdeclaration_183, Bdeclaration_184, oi_0, oi_1, oi_2, oi_21, oi_22, oi_61, Pu_cant, Pu_emit, Pj_expression, Pj_isSign, Pj_isType, Pj_isWord, Pj_take, Pj_variable]; try dsimp only
        try simp only [hR.e2, hR.e14, hR.e15, hR.e17, hR.e18, hR.e36, hR.e42, hR.e49, hR.e62, hR.a3, hR.a6, hR.a51, hR.a19, hR.a63, hR.a64, hR.hp]
        intro p11 q11
        try simp only [hR.e2, hR.e14, hR.e15, hR.e17, hR.e18, hR.e36, hR.e42, hR.e49, hR.e62, hR.a3, hR.a6, hR.a51, hR.a19, hR.a63, hR.a64, hR.hp]
        refine ⟨⟨(Rj.w (md := 1) (by (repeat (first | exact hR | refine Rj.i ?_ rfl | refine Rj.a ?_ rfl | refine Rj.m ?_ | refine Rj.s ?_ (by decide) | refine Rj.o1 ?_ (by first | lia | (dsimp only [Nat.beq, gI_sI, gI_sL, gI_sA, gI_sM, gL_sI, gL_sL, gL_sA, gL_sM, aI_sI, aI_sL, aI_sA, aI_sM, aL_sI, aL_sL, aL_sA, aL_sM]; lia)) | refine Rj.o2 ?_ | refine Rj.f1 ?_ (by first | lia | (dsimp only [Nat.beq, gI_sI, gI_sL, gI_sA, gI_sM, gL_sI, gL_sL, gL_sA, gL_sM, aI_sI, aI_sL, aI_sA, aI_sM, aL_sI, aL_sL, aL_sA, aL_sM]; lia)) | refine Rj.f2 ?_ | refine Rj.fs ?_)))), by lia, by lia⟩, fun w12 τ12 w12' τ12' hq12 => ?_⟩
        obtain ⟨b12, rfl, rfl, hb12⟩ := hq12
        rcases hb12 with rfl | ⟨rfl, hr12, hk12, hx12⟩
        · dsimp only [Option.toList, List.cons_append, List.nil_append, Nat.beq, gI_sI, gI_sL, gI_sA, gI_sM, gL_sI, gL_sL, gL_sA, gL_sM, aI_sI, aI_sL, aI_sA, aI_sM, aL_sI, aL_sL, aL_sA, aL_sM]
          try simp only [hR.e2, hR.e14, hR.e15, hR.e17, hR.e18, hR.e36, hR.e42, hR.e49, hR.e62, hR.a3, hR.a6, hR.a51, hR.a19, hR.a63, hR.a64, hR.hp]
          refine ⟨fun h13 => absurd h13 (by decide), fun h13 => ⟨(by exact h13), ?_⟩⟩
          clear h13
          refine hB _ _ _ _ _ _ _ _ (fun m14 hm14 => ?_)
          dsimp only [jgo, jwp, jst, jct, rfd, Bdeclaration, Nat.beq, lv_args, rlk, rs1, rs2, rdl, rky, rcd, rno, rsw, Value.category, List.filter, List.take, List.drop, List.reverse, List.reverseAux, List.cons_append, List.nil_append, Option.toList, Int.toNat, Int.reduceToNat, if_pos, if_neg, reduceIte, ↓reduceIte, Nat.reduceAdd, Nat.reduceEqDiff, Nat.reduceBEq, beq_self_eq_true, Bool.not_true, Bool.not_false, Bool.and_true, Bool.and_false, Bool.true_and, Bool.false_and, gI_sI, gI_sL, gI_sA, gI_sM, gL_sI, gL_sL, gL_sA, gL_sM, aI_sI, aI_sL, aI_sA, aI_sM, aL_sI, aL_sL, aL_sA, aL_sM, Bdeclaration_0, Bdeclaration_11, Bdeclaration_18, Bdeclaration_20, Bdeclaration_31, Bdeclaration_36, Bdeclaration_53, Bdeclaration_55, Bdeclaration_68, Bdeclaration_73, Bdeclaration_95, Bdeclaration_97, Bdeclaration_110, Bdeclaration_114, Bdeclaration_119, Bdeclaration_124, Bdeclaration_147, Bdeclaration_154, Bdeclaration_156, Bdeclaration_179, Bdeclaration_183, Bdeclaration_184, oi_0, oi_1, oi_2, oi_21, oi_22, oi_61, Pu_cant, Pu_emit, Pj_expression, Pj_isSign, Pj_isType, Pj_isWord, Pj_take, Pj_variable]; try dsimp only
          try simp only [hR.e2, hR.e14, hR.e15, hR.e17, hR.e18, hR.e36, hR.e42, hR.e49, hR.e62, hR.a3, hR.a6, hR.a51, hR.a19, hR.a63, hR.a64, hR.hp]
          unfold Qj_declaration
          try dsimp only
          exact ⟨_, rfl, rfl, Or.inl rfl⟩
        · dsimp only [Option.toList, List.cons_append, List.nil_append, Nat.beq, gI_sI, gI_sL, gI_sA, gI_sM, gL_sI, gL_sL, gL_sA, gL_sM, aI_sI, aI_sL, aI_sA, aI_sM, aL_sI, aL_sL, aL_sA, aL_sM]
          have hR12 : Rj 1 τ12 τ12' := hr12 _ (by (repeat (first | exact hR | refine Rj.i ?_ rfl | refine Rj.a ?_ rfl | refine Rj.m ?_ | refine Rj.s ?_ (by decide) | refine Rj.o1 ?_ (by first | lia | (dsimp only [Nat.beq, gI_sI, gI_sL, gI_sA, gI_sM, gL_sI, gL_sL, gL_sA, gL_sM, aI_sI, aI_sL, aI_sA, aI_sM, aL_sI, aL_sL, aL_sA, aL_sM]; lia)) | refine Rj.o2 ?_ | refine Rj.f1 ?_ (by first | lia | (dsimp only [Nat.beq, gI_sI, gI_sL, gI_sA, gI_sM, gL_sI, gL_sL, gL_sA, gL_sM, aI_sI, aI_sL, aI_sA, aI_sM, aL_sI, aL_sL, aL_sA, aL_sM]; lia)) | refine Rj.f2 ?_ | refine Rj.fs ?_)))
          have ht12 := hk12.2 3 rfl
          have hc12 := hk12.1 2 rfl
          try dsimp only [Nat.beq, gI_sI, gI_sL, gI_sA, gI_sM, gL_sI, gL_sL, gL_sA, gL_sM, aI_sI, aI_sL, aI_sA, aI_sM, aL_sI, aL_sL, aL_sA, aL_sM] at hx12
          try dsimp only [Nat.beq, gI_sI, gI_sL, gI_sA, gI_sM, gL_sI, gL_sL, gL_sA, gL_sM, aI_sI, aI_sL, aI_sA, aI_sM, aL_sI, aL_sL, aL_sA, aL_sM] at ht12
          try dsimp only [Nat.beq, gI_sI, gI_sL, gI_sA, gI_sM, gL_sI, gL_sL, gL_sA, gL_sM, aI_sI, aI_sL, aI_sA, aI_sM, aL_sI, aL_sL, aL_sA, aL_sM] at hc12
          have hh12 := hk12.1 62 rfl
          have hg12 := hk12.1 49 rfl
          try dsimp only [Nat.beq, gI_sI, gI_sL, gI_sA, gI_sM, gL_sI, gL_sL, gL_sA, gL_sM, aI_sI, aI_sL, aI_sA, aI_sM, aL_sI, aL_sL, aL_sA, aL_sM] at hh12
          try dsimp only [Nat.beq, gI_sI, gI_sL, gI_sA, gI_sM, gL_sI, gL_sL, gL_sA, gL_sM, aI_sI, aI_sL, aI_sA, aI_sM, aL_sI, aL_sL, aL_sA, aL_sM] at hg12
          have hz12 := congrFun ht12 (gI τ12 14).toNatClampNeg
          try simp only [hR12.e2, hR12.e14, hR12.e15, hR12.e17, hR12.e18, hR12.e36, hR12.e42, hR12.e49, hR12.e62, hR12.a3, hR12.a6, hR12.a51, hR12.a19, hR12.a63, hR12.a64, hR12.hp]
          refine ⟨fun h15 => ⟨(by exact h15), ?_⟩, fun h15 => absurd h15 (by decide)⟩
          clear h15
          refine hB _ _ _ _ _ _ _ _ (fun m16 hm16 => ?_)
          dsimp only [jgo, jwp, jst, jct, rfd, Bdeclaration, Nat.beq, lv_args, rlk, rs1, rs2, rdl, rky, rcd, rno, rsw, Value.category, List.filter, List.take, List.drop, List.reverse, List.reverseAux, List.cons_append, List.nil_append, Option.toList, Int.toNat, Int.reduceToNat, if_pos, if_neg, reduceIte, ↓reduceIte, Nat.reduceAdd, Nat.reduceEqDiff, Nat.reduceBEq, beq_self_eq_true, Bool.not_true, Bool.not_false, Bool.and_true, Bool.and_false, Bool.true_and, Bool.false_and, gI_sI, gI_sL, gI_sA, gI_sM, gL_sI, gL_sL, gL_sA, gL_sM, aI_sI, aI_sL, aI_sA, aI_sM, aL_sI, aL_sL, aL_sA, aL_sM, Bdeclaration_0, Bdeclaration_11, Bdeclaration_18, Bdeclaration_20, Bdeclaration_31, Bdeclaration_36, Bdeclaration_53, Bdeclaration_55, Bdeclaration_68, Bdeclaration_73, Bdeclaration_95, Bdeclaration_97, Bdeclaration_110, Bdeclaration_114, Bdeclaration_119, Bdeclaration_124, Bdeclaration_147, Bdeclaration_154, Bdeclaration_156, Bdeclaration_179, Bdeclaration_183, Bdeclaration_184, oi_0, oi_1, oi_2, oi_21, oi_22, oi_61, Pu_cant, Pu_emit, Pj_expression, Pj_isSign, Pj_isType, Pj_isWord, Pj_take, Pj_variable]; try dsimp only
          try simp only [hR12.e2, hR12.e14, hR12.e15, hR12.e17, hR12.e18, hR12.e36, hR12.e42, hR12.e49, hR12.e62, hR12.a3, hR12.a6, hR12.a51, hR12.a19, hR12.a63, hR12.a64, hR12.hp]
          intro p17 q17
          try simp only [hR12.e2, hR12.e14, hR12.e15, hR12.e17, hR12.e18, hR12.e36, hR12.e42, hR12.e49, hR12.e62, hR12.a3, hR12.a6, hR12.a51, hR12.a19, hR12.a63, hR12.a64, hR12.hp]
          refine ⟨fun h18 => ⟨(by exact h18), ?_⟩, fun h18 => ⟨(by exact h18), ?_⟩⟩
          · refine hB _ _ _ _ _ _ _ _ (fun m19 hm19 => ?_)
            dsimp only [jgo, jwp, jst, jct, rfd, Bdeclaration, Nat.beq, lv_args, rlk, rs1, rs2, rdl, rky, rcd, rno, rsw, Value.category, List.filter, List.take, List.drop, List.reverse, List.reverseAux, List.cons_append, List.nil_append, Option.toList, Int.toNat, Int.reduceToNat, if_pos, if_neg, reduceIte, ↓reduceIte, Nat.reduceAdd, Nat.reduceEqDiff, Nat.reduceBEq, beq_self_eq_true, Bool.not_true, Bool.not_false, Bool.and_true, Bool.and_false, Bool.true_and, Bool.false_and, gI_sI, gI_sL, gI_sA, gI_sM, gL_sI, gL_sL, gL_sA, gL_sM, aI_sI, aI_sL, aI_sA, aI_sM, aL_sI, aL_sL, aL_sA, aL_sM, Bdeclaration_0, Bdeclaration_11, Bdeclaration_18, Bdeclaration_20, Bdeclaration_31, Bdeclaration_36, Bdeclaration_53, Bdeclaration_55, Bdeclaration_68, Bdeclaration_73, Bdeclaration_95, Bdeclaration_97, Bdeclaration_110, Bdeclaration_114, Bdeclaration_119, Bdeclaration_124, Bdeclaration_147, Bdeclaration_154, Bdeclaration_156, Bdeclaration_179, Bdeclaration_183, Bdeclaration_184, oi_0, oi_1, oi_2, oi_21, oi_22, oi_61, Pu_cant, Pu_emit, Pj_expression, Pj_isSign, Pj_isType, Pj_isWord, Pj_take, Pj_variable]; try dsimp only
            try simp only [hR12.e2, hR12.e14, hR12.e15, hR12.e17, hR12.e18, hR12.e36, hR12.e42, hR12.e49, hR12.e62, hR12.a3, hR12.a6, hR12.a51, hR12.a19, hR12.a63, hR12.a64, hR12.hp]
            refine ⟨⟨(by (repeat (first | exact hR12 | refine Rj.i ?_ rfl | refine Rj.a ?_ rfl | refine Rj.m ?_ | refine Rj.s ?_ (by decide) | refine Rj.o1 ?_ (by first | lia | (dsimp only [Nat.beq, gI_sI, gI_sL, gI_sA, gI_sM, gL_sI, gL_sL, gL_sA, gL_sM, aI_sI, aI_sL, aI_sA, aI_sM, aL_sI, aL_sL, aL_sA, aL_sM]; lia)) | refine Rj.o2 ?_ | refine Rj.f1 ?_ (by first | lia | (dsimp only [Nat.beq, gI_sI, gI_sL, gI_sA, gI_sM, gL_sI, gL_sL, gL_sA, gL_sM, aI_sI, aI_sL, aI_sA, aI_sM, aL_sI, aL_sL, aL_sA, aL_sM]; lia)) | refine Rj.f2 ?_ | refine Rj.fs ?_))), by lia⟩, fun w20 τ20 w20' τ20' hq20 => ?_⟩
            obtain ⟨b20, rfl, rfl, hb20⟩ := hq20
            rcases hb20 with rfl | ⟨rfl, hR20, hk20, hx20⟩
            · dsimp only [Option.toList, List.cons_append, List.nil_append, Nat.beq, gI_sI, gI_sL, gI_sA, gI_sM, gL_sI, gL_sL, gL_sA, gL_sM, aI_sI, aI_sL, aI_sA, aI_sM, aL_sI, aL_sL, aL_sA, aL_sM]
              try simp only [hR12.e2, hR12.e14, hR12.e15, hR12.e17, hR12.e18, hR12.e36, hR12.e42, hR12.e49, hR12.e62, hR12.a3, hR12.a6, hR12.a51, hR12.a19, hR12.a63, hR12.a64, hR12.hp]
              refine ⟨fun h21 => absurd h21 (by decide), fun h21 => ⟨(by exact h21), ?_⟩⟩
              clear h21
              refine hB _ _ _ _ _ _ _ _ (fun m22 hm22 => ?_)
              dsimp only [jgo, jwp, jst, jct, rfd, Bdeclaration, Nat.beq, lv_args, rlk, rs1, rs2, rdl, rky, rcd, rno, rsw, Value.category, List.filter, List.take, List.drop, List.reverse, List.reverseAux, List.cons_append, List.nil_append, Option.toList, Int.toNat, Int.reduceToNat, if_pos, if_neg, reduceIte, ↓reduceIte, Nat.reduceAdd, Nat.reduceEqDiff, Nat.reduceBEq, beq_self_eq_true, Bool.not_true, Bool.not_false, Bool.and_true, Bool.and_false, Bool.true_and, Bool.false_and, gI_sI, gI_sL, gI_sA, gI_sM, gL_sI, gL_sL, gL_sA, gL_sM, aI_sI, aI_sL, aI_sA, aI_sM, aL_sI, aL_sL, aL_sA, aL_sM, Bdeclaration_0, Bdeclaration_11, Bdeclaration_18, Bdeclaration_20, Bdeclaration_31, Bdeclaration_36, Bdeclaration_53, Bdeclaration_55, Bdeclaration_68, Bdeclaration_73, Bdeclaration_95, Bdeclaration_97, Bdeclaration_110, Bdeclaration_114, Bdeclaration_119, Bdeclaration_124, Bdeclaration_147, Bdeclaration_154, Bdeclaration_156, Bdeclaration_179, Bdeclaration_183, Bdeclaration_184, oi_0, oi_1, oi_2, oi_21, oi_22, oi_61, Pu_cant, Pu_emit, Pj_expression, Pj_isSign, Pj_isType, Pj_isWord, Pj_take, Pj_variable]; try dsimp only
              try simp only [hR12.e2, hR12.e14, hR12.e15, hR12.e17, hR12.e18, hR12.e36, hR12.e42, hR12.e49, hR12.e62, hR12.a3, hR12.a6, hR12.a51, hR12.a19, hR12.a63, hR12.a64, hR12.hp]
              unfold Qj_declaration
              try dsimp only
              exact ⟨_, rfl, rfl, Or.inl rfl⟩
            · dsimp only [Option.toList, List.cons_append, List.nil_append, Nat.beq, gI_sI, gI_sL, gI_sA, gI_sM, gL_sI, gL_sL, gL_sA, gL_sM, aI_sI, aI_sL, aI_sA, aI_sM, aL_sI, aL_sL, aL_sA, aL_sM]
              have ht20 := hk20.2 3 rfl
              have hc20 := hk20.1 2 rfl
              try dsimp only [Nat.beq, gI_sI, gI_sL, gI_sA, gI_sM, gL_sI, gL_sL, gL_sA, gL_sM, aI_sI, aI_sL, aI_sA, aI_sM, aL_sI, aL_sL, aL_sA, aL_sM] at hx20
              try dsimp only [Nat.beq, gI_sI, gI_sL, gI_sA, gI_sM, gL_sI, gL_sL, gL_sA, gL_sM, aI_sI, aI_sL, aI_sA, aI_sM, aL_sI, aL_sL, aL_sA, aL_sM] at ht20
              try dsimp only [Nat.beq, gI_sI, gI_sL, gI_sA, gI_sM, gL_sI, gL_sL, gL_sA, gL_sM, aI_sI, aI_sL, aI_sA, aI_sM, aL_sI, aL_sL, aL_sA, aL_sM] at hc20
              have hh20 := hk20.1 62 rfl
              have hg20 := hk20.1 49 rfl
              try dsimp only [Nat.beq, gI_sI, gI_sL, gI_sA, gI_sM, gL_sI, gL_sL, gL_sA, gL_sM, aI_sI, aI_sL, aI_sA, aI_sM, aL_sI, aL_sL, aL_sA, aL_sM] at hh20
              try dsimp only [Nat.beq, gI_sI, gI_sL, gI_sA, gI_sM, gL_sI, gL_sL, gL_sA, gL_sM, aI_sI, aI_sL, aI_sA, aI_sM, aL_sI, aL_sL, aL_sA, aL_sM] at hg20
              have hz20 := congrFun ht20 (gI τ20 14).toNatClampNeg
              try simp only [hR20.e2, hR20.e14, hR20.e15, hR20.e17, hR20.e18, hR20.e36, hR20.e42, hR20.e49, hR20.e62, hR20.a3, hR20.a6, hR20.a51, hR20.a19, hR20.a63, hR20.a64, hR20.hp]
              refine ⟨fun h23 => ⟨(by exact h23), ?_⟩, fun h23 => absurd h23 (by decide)⟩
              clear h23
              refine hB _ _ _ _ _ _ _ _ (fun m24 hm24 => ?_)
              dsimp only [jgo, jwp, jst, jct, rfd, Bdeclaration, Nat.beq, lv_args, rlk, rs1, rs2, rdl, rky, rcd, rno, rsw, Value.category, List.filter, List.take, List.drop, List.reverse, List.reverseAux, List.cons_append, List.nil_append, Option.toList, Int.toNat, Int.reduceToNat, if_pos, if_neg, reduceIte, ↓reduceIte, Nat.reduceAdd, Nat.reduceEqDiff, Nat.reduceBEq, beq_self_eq_true, Bool.not_true, Bool.not_false, Bool.and_true, Bool.and_false, Bool.true_and, Bool.false_and, gI_sI, gI_sL, gI_sA, gI_sM, gL_sI, gL_sL, gL_sA, gL_sM, aI_sI, aI_sL, aI_sA, aI_sM, aL_sI, aL_sL, aL_sA, aL_sM, Bdeclaration_0, Bdeclaration_11, Bdeclaration_18, Bdeclaration_20, Bdeclaration_31, Bdeclaration_36, Bdeclaration_53, Bdeclaration_55, Bdeclaration_68, Bdeclaration_73, Bdeclaration_95, Bdeclaration_97, Bdeclaration_110, Bdeclaration_114, Bdeclaration_119, Bdeclaration_124, Bdeclaration_147, Bdeclaration_154, Bdeclaration_156, Bdeclaration_179, Bdeclaration_183, Bdeclaration_184, oi_0, oi_1, oi_2, oi_21, oi_22, oi_61, Pu_cant, Pu_emit, Pj_expression, Pj_isSign, Pj_isType, Pj_isWord, Pj_take, Pj_variable]; try dsimp only
              try simp only [hR20.e2, hR20.e14, hR20.e15, hR20.e17, hR20.e18, hR20.e36, hR20.e42, hR20.e49, hR20.e62, hR20.a3, hR20.a6, hR20.a51, hR20.a19, hR20.a63, hR20.a64, hR20.hp]
              refine ⟨⟨(Rj.w (md := 1) (by (repeat (first | exact hR20 | refine Rj.i ?_ rfl | refine Rj.a ?_ rfl | refine Rj.m ?_ | refine Rj.s ?_ (by decide) | refine Rj.o1 ?_ (by first | lia | (dsimp only [Nat.beq, gI_sI, gI_sL, gI_sA, gI_sM, gL_sI, gL_sL, gL_sA, gL_sM, aI_sI, aI_sL, aI_sA, aI_sM, aL_sI, aL_sL, aL_sA, aL_sM]; lia)) | refine Rj.o2 ?_ | refine Rj.f1 ?_ (by first | lia | (dsimp only [Nat.beq, gI_sI, gI_sL, gI_sA, gI_sM, gL_sI, gL_sL, gL_sA, gL_sM, aI_sI, aI_sL, aI_sA, aI_sM, aL_sI, aL_sL, aL_sA, aL_sM]; lia)) | refine Rj.f2 ?_ | refine Rj.fs ?_)))), (by first | exact True.intro | rfl)⟩, fun w25 τ25 w25' τ25' hq25 => ?_⟩
              obtain ⟨b25, rfl, rfl, rfl, rfl, hb25⟩ := hq25
              rcases hb25 with rfl | ⟨rfl, hf25⟩
              · dsimp only [Option.toList, List.cons_append, List.nil_append, Nat.beq, gI_sI, gI_sL, gI_sA, gI_sM, gL_sI, gL_sL, gL_sA, gL_sM, aI_sI, aI_sL, aI_sA, aI_sM, aL_sI, aL_sL, aL_sA, aL_sM]
                try simp only [hR20.e2, hR20.e14, hR20.e15, hR20.e17, hR20.e18, hR20.e36, hR20.e42, hR20.e49, hR20.e62, hR20.a3, hR20.a6, hR20.a51, hR20.a19, hR20.a63, hR20.a64, hR20.hp]
                refine ⟨fun h26 => absurd h26 (by decide), fun h26 => ⟨(by exact h26), ?_⟩⟩
                clear h26
                refine hB _ _ _ _ _ _ _ _ (fun m27 hm27 => ?_)
                dsimp only [jgo, jwp, jst, jct, rfd, Bdeclaration, Nat.beq, lv_args, rlk, rs1, rs2, rdl, rky, rcd, rno, rsw, Value.category, List.filter, List.take, List.drop, List.reverse, List.reverseAux, List.cons_append, List.nil_append, Option.toList, Int.toNat, Int.reduceToNat, if_pos, if_neg, reduceIte, ↓reduceIte, Nat.reduceAdd, Nat.reduceEqDiff, Nat.reduceBEq, beq_self_eq_true, Bool.not_true, Bool.not_false, Bool.and_true, Bool.and_false, Bool.true_and, Bool.false_and, gI_sI, gI_sL, gI_sA, gI_sM, gL_sI, gL_sL, gL_sA, gL_sM, aI_sI, aI_sL, aI_sA, aI_sM, aL_sI, aL_sL, aL_sA, aL_sM, Bdeclaration_0, Bdeclaration_11, Bdeclaration_18, Bdeclaration_20, Bdeclaration_31, Bdeclaration_36, Bdeclaration_53, Bdeclaration_55, Bdeclaration_68, Bdeclaration_73, Bdeclaration_95, Bdeclaration_97, Bdeclaration_110, Bdeclaration_114, Bdeclaration_119, Bdeclaration_124, Bdeclaration_147, Bdeclaration_154, Bdeclaration_156, Bdeclaration_179, Bdeclaration_183, Bdeclaration_184, oi_0, oi_1, oi_2, oi_21, oi_22, oi_61, Pu_cant, Pu_emit, Pj_expression, Pj_isSign, Pj_isType, Pj_isWord, Pj_take, Pj_variable]; try dsimp only
                try simp only [hR20.e2, hR20.e14, hR20.e15, hR20.e17, hR20.e18, hR20.e36, hR20.e42, hR20.e49, hR20.e62, hR20.a3, hR20.a6, hR20.a51, hR20.a19, hR20.a63, hR20.a64, hR20.hp]
                refine ⟨fun h28 => ⟨(by exact h28), ?_⟩, fun h28 => absurd h28 (by decide)⟩
                clear h28
                refine hB _ _ _ _ _ _ _ _ (fun m29 hm29 => ?_)
                dsimp only [jgo, jwp, jst, jct, rfd, Bdeclaration, Nat.beq, lv_args, rlk, rs1, rs2, rdl, rky, rcd, rno, rsw, Value.category, List.filter, List.take, List.drop, List.reverse, List.reverseAux, List.cons_append, List.nil_append, Option.toList, Int.toNat, Int.reduceToNat, if_pos, if_neg, reduceIte, ↓reduceIte, Nat.reduceAdd, Nat.reduceEqDiff, Nat.reduceBEq, beq_self_eq_true, Bool.not_true, Bool.not_false, Bool.and_true, Bool.and_false, Bool.true_and, Bool.false_and, gI_sI, gI_sL, gI_sA, gI_sM, gL_sI, gL_sL, gL_sA, gL_sM, aI_sI, aI_sL, aI_sA, aI_sM, aL_sI, aL_sL, aL_sA, aL_sM, Bdeclaration_0, Bdeclaration_11, Bdeclaration_18, Bdeclaration_20, Bdeclaration_31, Bdeclaration_36, Bdeclaration_53, Bdeclaration_55, Bdeclaration_68, Bdeclaration_73, Bdeclaration_95, Bdeclaration_97, Bdeclaration_110, Bdeclaration_114, Bdeclaration_119, Bdeclaration_124, Bdeclaration_147, Bdeclaration_154, Bdeclaration_156, Bdeclaration_179, Bdeclaration_183, Bdeclaration_184, oi_0, oi_1, oi_2, oi_21, oi_22, oi_61, Pu_cant, Pu_emit, Pj_expression, Pj_isSign, Pj_isType, Pj_isWord, Pj_take, Pj_variable]; try dsimp only
                try simp only [hR20.e2, hR20.e14, hR20.e15, hR20.e17, hR20.e18, hR20.e36, hR20.e42, hR20.e49, hR20.e62, hR20.a3, hR20.a6, hR20.a51, hR20.a19, hR20.a63, hR20.a64, hR20.hp]
                refine ⟨fun h30 => ⟨(by exact h30), ?_⟩, fun h30 => absurd h30 (by decide)⟩
                clear h30
                refine hB _ _ _ _ _ _ _ _ (fun m31 hm31 => ?_)
                dsimp only [jgo, jwp, jst, jct, rfd, Bdeclaration, Nat.beq, lv_args, rlk, rs1, rs2, rdl, rky, rcd, rno, rsw, Value.category, List.filter, List.take, List.drop, List.reverse, List.reverseAux, List.cons_append, List.nil_append, Option.toList, Int.toNat, Int.reduceToNat, if_pos, if_neg, reduceIte, ↓reduceIte, Nat.reduceAdd, Nat.reduceEqDiff, Nat.reduceBEq, beq_self_eq_true, Bool.not_true, Bool.not_false, Bool.and_true, Bool.and_false, Bool.true_and, Bool.false_and, gI_sI, gI_sL, gI_sA, gI_sM, gL_sI, gL_sL, gL_sA, gL_sM, aI_sI, aI_sL, aI_sA, aI_sM, aL_sI, aL_sL, aL_sA, aL_sM, Bdeclaration_0, Bdeclaration_11, Bdeclaration_18, Bdeclaration_20, Bdeclaration_31, Bdeclaration_36, Bdeclaration_53, Bdeclaration_55, Bdeclaration_68, Bdeclaration_73, Bdeclaration_95, Bdeclaration_97, Bdeclaration_110, Bdeclaration_114, Bdeclaration_119, Bdeclaration_124, Bdeclaration_147, Bdeclaration_154, Bdeclaration_156, Bdeclaration_179, Bdeclaration_183, Bdeclaration_184, oi_0, oi_1, oi_2, oi_21, oi_22, oi_61, Pu_cant, Pu_emit, Pj_expression, Pj_isSign, Pj_isType, Pj_isWord, Pj_take, Pj_variable]; try dsimp only
                try simp only [hR20.e2, hR20.e14, hR20.e15, hR20.e17, hR20.e18, hR20.e36, hR20.e42, hR20.e49, hR20.e62, hR20.a3, hR20.a6, hR20.a51, hR20.a19, hR20.a63, hR20.a64, hR20.hp]
                refine ⟨⟨trivial, trivial⟩, fun w32 τ32 w32' τ32' hq32 => ?_⟩
                obtain ⟨⟨rfl, hE32⟩, rfl, hF32⟩ := hq32
                have hR32 : Rj 1 τ32 τ32' := Rj.em (by (repeat (first | exact hR20 | refine Rj.i ?_ rfl | refine Rj.a ?_ rfl | refine Rj.m ?_ | refine Rj.s ?_ (by decide) | refine Rj.o1 ?_ (by first | lia | (dsimp only [Nat.beq, gI_sI, gI_sL, gI_sA, gI_sM, gL_sI, gL_sL, gL_sA, gL_sM, aI_sI, aI_sL, aI_sA, aI_sM, aL_sI, aL_sL, aL_sA, aL_sM]; lia)) | refine Rj.o2 ?_ | refine Rj.f1 ?_ (by first | lia | (dsimp only [Nat.beq, gI_sI, gI_sL, gI_sA, gI_sM, gL_sI, gL_sL, gL_sA, gL_sM, aI_sI, aI_sL, aI_sA, aI_sM, aL_sI, aL_sL, aL_sA, aL_sM]; lia)) | refine Rj.f2 ?_ | refine Rj.fs ?_))) hE32 hF32 (by first | exact fun _ => rfl | exact fun q => absurd q (by decide))
                have hp32 := hE32.1 14 (by decide)
                have ho32 := hE32.1 29 (by decide)
                have hh32 := hE32.1 62 (by decide)
                have hg32 := hE32.1 49 (by decide)
                have hw32 := hE32.1 34 (by decide)
                have hv32 := hF32.1 34 (by decide)
                have ht32 := hE32.2.2.2.2.1 3 (by decide)
                try dsimp only [Nat.beq, gI_sI, gI_sL, gI_sA, gI_sM, gL_sI, gL_sL, gL_sA, gL_sM, aI_sI, aI_sL, aI_sA, aI_sM, aL_sI, aL_sL, aL_sA, aL_sM] at hp32
                try dsimp only [Nat.beq, gI_sI, gI_sL, gI_sA, gI_sM, gL_sI, gL_sL, gL_sA, gL_sM, aI_sI, aI_sL, aI_sA, aI_sM, aL_sI, aL_sL, aL_sA, aL_sM] at ho32
                try dsimp only [Nat.beq, gI_sI, gI_sL, gI_sA, gI_sM, gL_sI, gL_sL, gL_sA, gL_sM, aI_sI, aI_sL, aI_sA, aI_sM, aL_sI, aL_sL, aL_sA, aL_sM] at hh32
                try dsimp only [Nat.beq, gI_sI, gI_sL, gI_sA, gI_sM, gL_sI, gL_sL, gL_sA, gL_sM, aI_sI, aI_sL, aI_sA, aI_sM, aL_sI, aL_sL, aL_sA, aL_sM] at hg32
                try dsimp only [Nat.beq, gI_sI, gI_sL, gI_sA, gI_sM, gL_sI, gL_sL, gL_sA, gL_sM, aI_sI, aI_sL, aI_sA, aI_sM, aL_sI, aL_sL, aL_sA, aL_sM] at hw32
                try dsimp only [Nat.beq, gI_sI, gI_sL, gI_sA, gI_sM, gL_sI, gL_sL, gL_sA, gL_sM, aI_sI, aI_sL, aI_sA, aI_sM, aL_sI, aL_sL, aL_sA, aL_sM] at hv32
                try dsimp only [Nat.beq, gI_sI, gI_sL, gI_sA, gI_sM, gL_sI, gL_sL, gL_sA, gL_sM, aI_sI, aI_sL, aI_sA, aI_sM, aL_sI, aL_sL, aL_sA, aL_sM] at ht32
                have hz32 := congrFun ht32 (gI τ32 14).toNatClampNeg
                dsimp only [Option.toList, List.cons_append, List.nil_append, Nat.beq, gI_sI, gI_sL, gI_sA, gI_sM, gL_sI, gL_sL, gL_sA, gL_sM, aI_sI, aI_sL, aI_sA, aI_sM, aL_sI, aL_sL, aL_sA, aL_sM]
                try simp only [hR32.e2, hR32.e14, hR32.e15, hR32.e17, hR32.e18, hR32.e36, hR32.e42, hR32.e49, hR32.e62, hR32.a3, hR32.a6, hR32.a51, hR32.a19, hR32.a63, hR32.a64, hR32.hp, hR20.e18]
                refine ⟨fun h33 => ⟨(by exact h33), ?_⟩, fun h33 => absurd h33 (by decide)⟩
                clear h33
                refine hB _ _ _ _ _ _ _ _ (fun m34 hm34 => ?_)
                dsimp only [jgo, jwp, jst, jct, rfd, Bdeclaration, Nat.beq, lv_args, rlk, rs1, rs2, rdl, rky, rcd, rno, rsw, Value.category, List.filter, List.take, List.drop, List.reverse, List.reverseAux, List.cons_append, List.nil_append, Option.toList, Int.toNat, Int.reduceToNat, if_pos, if_neg, reduceIte, ↓reduceIte, Nat.reduceAdd, Nat.reduceEqDiff, Nat.reduceBEq, beq_self_eq_true, Bool.not_true, Bool.not_false, Bool.and_true, Bool.and_false, Bool.true_and, Bool.false_and, gI_sI, gI_sL, gI_sA, gI_sM, gL_sI, gL_sL, gL_sA, gL_sM, aI_sI, aI_sL, aI_sA, aI_sM, aL_sI, aL_sL, aL_sA, aL_sM, Bdeclaration_0, Bdeclaration_11, Bdeclaration_18, Bdeclaration_20, Bdeclaration_31, Bdeclaration_36, Bdeclaration_53, Bdeclaration_55, Bdeclaration_68, Bdeclaration_73, Bdeclaration_95, Bdeclaration_97, Bdeclaration_110, Bdeclaration_114, Bdeclaration_119, Bdeclaration_124, Bdeclaration_147, Bdeclaration_154, Bdeclaration_156, Bdeclaration_179, Bdeclaration_183, Bdeclaration_184, oi_0, oi_1, oi_2, oi_21, oi_22, oi_61, Pu_cant, Pu_emit, Pj_expression, Pj_isSign, Pj_isType, Pj_isWord, Pj_take, Pj_variable]; try dsimp only
                try simp only [hR32.e2, hR32.e14, hR32.e15, hR32.e17, hR32.e18, hR32.e36, hR32.e42, hR32.e49, hR32.e62, hR32.a3, hR32.a6, hR32.a51, hR32.a19, hR32.a63, hR32.a64, hR32.hp, hR20.e18]
                refine hB _ _ _ _ _ _ _ _ (fun m35 hm35 => ?_)
                dsimp only [jgo, jwp, jst, jct, rfd, Bdeclaration, Nat.beq, lv_args, rlk, rs1, rs2, rdl, rky, rcd, rno, rsw, Value.category, List.filter, List.take, List.drop, List.reverse, List.reverseAux, List.cons_append, List.nil_append, Option.toList, Int.toNat, Int.reduceToNat, if_pos, if_neg, reduceIte, ↓reduceIte, Nat.reduceAdd, Nat.reduceEqDiff, Nat.reduceBEq, beq_self_eq_true, Bool.not_true, Bool.not_false, Bool.and_true, Bool.and_false, Bool.true_and, Bool.false_and, gI_sI, gI_sL, gI_sA, gI_sM, gL_sI, gL_sL, gL_sA, gL_sM, aI_sI, aI_sL, aI_sA, aI_sM, aL_sI, aL_sL, aL_sA, aL_sM, Bdeclaration_0, Bdeclaration_11, Bdeclaration_18, Bdeclaration_20, Bdeclaration_31, Bdeclaration_36, Bdeclaration_53, Bdeclaration_55, Bdeclaration_68, Bdeclaration_73, Bdeclaration_95, Bdeclaration_97, Bdeclaration_110, Bdeclaration_114, Bdeclaration_119, Bdeclaration_124, Bdeclaration_147, Bdeclaration_154, Bdeclaration_156, Bdeclaration_179, Bdeclaration_183, Bdeclaration_184, oi_0, oi_1, oi_2, oi_21, oi_22, oi_61, Pu_cant, Pu_emit, Pj_expression, Pj_isSign, Pj_isType, Pj_isWord, Pj_take, Pj_variable]; try dsimp only
                try simp only [hR32.e2, hR32.e14, hR32.e15, hR32.e17, hR32.e18, hR32.e36, hR32.e42, hR32.e49, hR32.e62, hR32.a3, hR32.a6, hR32.a51, hR32.a19, hR32.a63, hR32.a64, hR32.hp, hR20.e18]
                intro p36 q36
                try simp only [hR32.e2, hR32.e14, hR32.e15, hR32.e17, hR32.e18, hR32.e36, hR32.e42, hR32.e49, hR32.e62, hR32.a3, hR32.a6, hR32.a51, hR32.a19, hR32.a63, hR32.a64, hR32.hp, hR20.e18]
                unfold Qj_declaration
                try dsimp only
                exact ⟨_, rfl, rfl, Or.inr ⟨rfl, by (repeat (first | exact hR32 | refine Rj.i ?_ rfl | refine Rj.a ?_ rfl | refine Rj.m ?_ | refine Rj.s ?_ (by decide) | refine Rj.o1 ?_ (by first | lia | (dsimp only [Nat.beq, gI_sI, gI_sL, gI_sA, gI_sM, gL_sI, gL_sL, gL_sA, gL_sM, aI_sI, aI_sL, aI_sA, aI_sM, aL_sI, aL_sL, aL_sA, aL_sM]; lia)) | refine Rj.o2 ?_ | refine Rj.f1 ?_ (by first | lia | (dsimp only [Nat.beq, gI_sI, gI_sL, gI_sA, gI_sM, gL_sI, gL_sL, gL_sA, gL_sM, aI_sI, aI_sL, aI_sA, aI_sM, aL_sI, aL_sL, aL_sA, aL_sM]; lia)) | refine Rj.f2 ?_ | refine Rj.fs ?_)), by (repeat (first | exact Kx.rf | refine Kx.i ?_ rfl | refine Kx.a ?_ rfl | refine Kx.m ?_ | refine Kx.tr ?_ hE32.kx | refine Kx.tr ?_ hk20 | refine Kx.tr ?_ hk12))⟩⟩
              · dsimp only [Option.toList, List.cons_append, List.nil_append, Nat.beq, gI_sI, gI_sL, gI_sA, gI_sM, gL_sI, gL_sL, gL_sA, gL_sM, aI_sI, aI_sL, aI_sA, aI_sM, aL_sI, aL_sL, aL_sA, aL_sM]
                try dsimp only [Nat.beq, gI_sI, gI_sL, gI_sA, gI_sM, gL_sI, gL_sL, gL_sA, gL_sM, aI_sI, aI_sL, aI_sA, aI_sM, aL_sI, aL_sL, aL_sA, aL_sM] at hf25
                try simp only [hR20.e2, hR20.e14, hR20.e15, hR20.e17, hR20.e18, hR20.e36, hR20.e42, hR20.e49, hR20.e62, hR20.a3, hR20.a6, hR20.a51, hR20.a19, hR20.a63, hR20.a64, hR20.hp]
                refine ⟨fun h37 => ⟨(by exact h37), ?_⟩, fun h37 => absurd h37 (by decide)⟩
                clear h37
                refine hB _ _ _ _ _ _ _ _ (fun m38 hm38 => ?_)
                dsimp only [jgo, jwp, jst, jct, rfd, Bdeclaration, Nat.beq, lv_args, rlk, rs1, rs2, rdl, rky, rcd, rno, rsw, Value.category, List.filter, List.take, List.drop, List.reverse, List.reverseAux, List.cons_append, List.nil_append, Option.toList, Int.toNat, Int.reduceToNat, if_pos, if_neg, reduceIte, ↓reduceIte, Nat.reduceAdd, Nat.reduceEqDiff, Nat.reduceBEq, beq_self_eq_true, Bool.not_true, Bool.not_false, Bool.and_true, Bool.and_false, Bool.true_and, Bool.false_and, gI_sI, gI_sL, gI_sA, gI_sM, gL_sI, gL_sL, gL_sA, gL_sM, aI_sI, aI_sL, aI_sA, aI_sM, aL_sI, aL_sL, aL_sA, aL_sM, Bdeclaration_0, Bdeclaration_11, Bdeclaration_18, Bdeclaration_20, Bdeclaration_31, Bdeclaration_36, Bdeclaration_53, Bdeclaration_55, Bdeclaration_68, Bdeclaration_73, Bdeclaration_95, Bdeclaration_97, Bdeclaration_110, Bdeclaration_114, Bdeclaration_119, Bdeclaration_124, Bdeclaration_147, Bdeclaration_154, Bdeclaration_156, Bdeclaration_179, Bdeclaration_183, Bdeclaration_184, oi_0, oi_1, oi_2, oi_21, oi_22, oi_61, Pu_cant, Pu_emit, Pj_expression, Pj_isSign, Pj_isType, Pj_isWord, Pj_take, Pj_variable]; try dsimp only
                try simp only [hR20.e2, hR20.e14, hR20.e15, hR20.e17, hR20.e18, hR20.e36, hR20.e42, hR20.e49, hR20.e62, hR20.a3, hR20.a6, hR20.a51, hR20.a19, hR20.a63, hR20.a64, hR20.hp]
                refine ⟨fun h39 => absurd h39 (by decide), fun h39 => ⟨(by exact h39), ?_⟩⟩
                clear h39
                refine hB _ _ _ _ _ _ _ _ (fun m40 hm40 => ?_)
                dsimp only [jgo, jwp, jst, jct, rfd, Bdeclaration, Nat.beq, lv_args, rlk, rs1, rs2, rdl, rky, rcd, rno, rsw, Value.category, List.filter, List.take, List.drop, List.reverse, List.reverseAux, List.cons_append, List.nil_append, Option.toList, Int.toNat, Int.reduceToNat, if_pos, if_neg, reduceIte, ↓reduceIte, Nat.reduceAdd, Nat.reduceEqDiff, Nat.reduceBEq, beq_self_eq_true, Bool.not_true, Bool.not_false, Bool.and_true, Bool.and_false, Bool.true_and, Bool.false_and, gI_sI, gI_sL, gI_sA, gI_sM, gL_sI, gL_sL, gL_sA, gL_sM, aI_sI, aI_sL, aI_sA, aI_sM, aL_sI, aL_sL, aL_sA, aL_sM, Bdeclaration_0, Bdeclaration_11, Bdeclaration_18, Bdeclaration_20, Bdeclaration_31, Bdeclaration_36, Bdeclaration_53, Bdeclaration_55, Bdeclaration_68, Bdeclaration_73, Bdeclaration_95, Bdeclaration_97, Bdeclaration_110, Bdeclaration_114, Bdeclaration_119, Bdeclaration_124, Bdeclaration_147, Bdeclaration_154, Bdeclaration_156, Bdeclaration_179, Bdeclaration_183, Bdeclaration_184, oi_0, oi_1, oi_2, oi_21, oi_22, oi_61, Pu_cant, Pu_emit, Pj_expression, Pj_isSign, Pj_isType, Pj_isWord, Pj_take, Pj_variable]; try dsimp only
                try simp only [hR20.e2, hR20.e14, hR20.e15, hR20.e17, hR20.e18, hR20.e36, hR20.e42, hR20.e49, hR20.e62, hR20.a3, hR20.a6, hR20.a51, hR20.a19, hR20.a63, hR20.a64, hR20.hp]
                refine ⟨⟨trivial, trivial⟩, fun w41 τ41 w41' τ41' hq41 => ?_⟩
                obtain ⟨⟨rfl, hE41⟩, rfl, hF41⟩ := hq41
                have hR41 : Rj 1 τ41 τ41' := Rj.em (by (repeat (first | exact hR20 | refine Rj.i ?_ rfl | refine Rj.a ?_ rfl | refine Rj.m ?_ | refine Rj.s ?_ (by decide) | refine Rj.o1 ?_ (by first | lia | (dsimp only [Nat.beq, gI_sI, gI_sL, gI_sA, gI_sM, gL_sI, gL_sL, gL_sA, gL_sM, aI_sI, aI_sL, aI_sA, aI_sM, aL_sI, aL_sL, aL_sA, aL_sM]; lia)) | refine Rj.o2 ?_ | refine Rj.f1 ?_ (by first | lia | (dsimp only [Nat.beq, gI_sI, gI_sL, gI_sA, gI_sM, gL_sI, gL_sL, gL_sA, gL_sM, aI_sI, aI_sL, aI_sA, aI_sM, aL_sI, aL_sL, aL_sA, aL_sM]; lia)) | refine Rj.f2 ?_ | refine Rj.fs ?_))) hE41 hF41 (by first | exact fun _ => rfl | exact fun q => absurd q (by decide))
                have hp41 := hE41.1 14 (by decide)
                have ho41 := hE41.1 29 (by decide)
                have hh41 := hE41.1 62 (by decide)
                have hg41 := hE41.1 49 (by decide)
                have hw41 := hE41.1 34 (by decide)
                have hv41 := hF41.1 34 (by decide)
                have ht41 := hE41.2.2.2.2.1 3 (by decide)
                try dsimp only [Nat.beq, gI_sI, gI_sL, gI_sA, gI_sM, gL_sI, gL_sL, gL_sA, gL_sM, aI_sI, aI_sL, aI_sA, aI_sM, aL_sI, aL_sL, aL_sA, aL_sM] at hp41
                try dsimp only [Nat.beq, gI_sI, gI_sL, gI_sA, gI_sM, gL_sI, gL_sL, gL_sA, gL_sM, aI_sI, aI_sL, aI_sA, aI_sM, aL_sI, aL_sL, aL_sA, aL_sM] at ho41
                try dsimp only [Nat.beq, gI_sI, gI_sL, gI_sA, gI_sM, gL_sI, gL_sL, gL_sA, gL_sM, aI_sI, aI_sL, aI_sA, aI_sM, aL_sI, aL_sL, aL_sA, aL_sM] at hh41
                try dsimp only [Nat.beq, gI_sI, gI_sL, gI_sA, gI_sM, gL_sI, gL_sL, gL_sA, gL_sM, aI_sI, aI_sL, aI_sA, aI_sM, aL_sI, aL_sL, aL_sA, aL_sM] at hg41
                try dsimp only [Nat.beq, gI_sI, gI_sL, gI_sA, gI_sM, gL_sI, gL_sL, gL_sA, gL_sM, aI_sI, aI_sL, aI_sA, aI_sM, aL_sI, aL_sL, aL_sA, aL_sM] at hw41
                try dsimp only [Nat.beq, gI_sI, gI_sL, gI_sA, gI_sM, gL_sI, gL_sL, gL_sA, gL_sM, aI_sI, aI_sL, aI_sA, aI_sM, aL_sI, aL_sL, aL_sA, aL_sM] at hv41
                try dsimp only [Nat.beq, gI_sI, gI_sL, gI_sA, gI_sM, gL_sI, gL_sL, gL_sA, gL_sM, aI_sI, aI_sL, aI_sA, aI_sM, aL_sI, aL_sL, aL_sA, aL_sM] at ht41
                have hz41 := congrFun ht41 (gI τ41 14).toNatClampNeg
                dsimp only [Option.toList, List.cons_append, List.nil_append, Nat.beq, gI_sI, gI_sL, gI_sA, gI_sM, gL_sI, gL_sL, gL_sA, gL_sM, aI_sI, aI_sL, aI_sA, aI_sM, aL_sI, aL_sL, aL_sA, aL_sM]
                try simp only [hR41.e2, hR41.e14, hR41.e15, hR41.e17, hR41.e18, hR41.e36, hR41.e42, hR41.e49, hR41.e62, hR41.a3, hR41.a6, hR41.a51, hR41.a19, hR41.a63, hR41.a64, hR41.hp, hR20.e18]
                intro p42 q42
                try simp only [hR41.e2, hR41.e14, hR41.e15, hR41.e17, hR41.e18, hR41.e36, hR41.e42, hR41.e49, hR41.e62, hR41.a3, hR41.a6, hR41.a51, hR41.a19, hR41.a63, hR41.a64, hR41.hp, hR20.e18]
                refine ⟨⟨(Rj.w (md := 1) (by (repeat (first | exact hR41 | refine Rj.i ?_ rfl | refine Rj.a ?_ rfl | refine Rj.m ?_ | refine Rj.s ?_ (by decide) | refine Rj.o1 ?_ (by first | lia | (dsimp only [Nat.beq, gI_sI, gI_sL, gI_sA, gI_sM, gL_sI, gL_sL, gL_sA, gL_sM, aI_sI, aI_sL, aI_sA, aI_sM, aL_sI, aL_sL, aL_sA, aL_sM]; lia)) | refine Rj.o2 ?_ | refine Rj.f1 ?_ (by first | lia | (dsimp only [Nat.beq, gI_sI, gI_sL, gI_sA, gI_sM, gL_sI, gL_sL, gL_sA, gL_sM, aI_sI, aI_sL, aI_sA, aI_sM, aL_sI, aL_sL, aL_sA, aL_sM]; lia)) | refine Rj.f2 ?_ | refine Rj.fs ?_)))), by lia, by lia⟩, fun w43 τ43 w43' τ43' hq43 => ?_⟩
                obtain ⟨b43, rfl, rfl, hb43⟩ := hq43
                rcases hb43 with rfl | ⟨rfl, hr43, hk43, hx43⟩
                · dsimp only [Option.toList, List.cons_append, List.nil_append, Nat.beq, gI_sI, gI_sL, gI_sA, gI_sM, gL_sI, gL_sL, gL_sA, gL_sM, aI_sI, aI_sL, aI_sA, aI_sM, aL_sI, aL_sL, aL_sA, aL_sM]
                  try simp only [hR41.e2, hR41.e14, hR41.e15, hR41.e17, hR41.e18, hR41.e36, hR41.e42, hR41.e49, hR41.e62, hR41.a3, hR41.a6, hR41.a51, hR41.a19, hR41.a63, hR41.a64, hR41.hp, hR20.e18]
                  refine ⟨fun h44 => ⟨(by exact h44), ?_⟩, fun h44 => absurd h44 (by decide)⟩
                  clear h44
                  refine hB _ _ _ _ _ _ _ _ (fun m45 hm45 => ?_)
                  dsimp only [jgo, jwp, jst, jct, rfd, Bdeclaration, Nat.beq, lv_args, rlk, rs1, rs2, rdl, rky, rcd, rno, rsw, Value.category, List.filter, List.take, List.drop, List.reverse, List.reverseAux, List.cons_append, List.nil_append, Option.toList, Int.toNat, Int.reduceToNat, if_pos, if_neg, reduceIte, ↓reduceIte, Nat.reduceAdd, Nat.reduceEqDiff, Nat.reduceBEq, beq_self_eq_true, Bool.not_true, Bool.not_false, Bool.and_true, Bool.and_false, Bool.true_and, Bool.false_and, gI_sI, gI_sL, gI_sA, gI_sM, gL_sI, gL_sL, gL_sA, gL_sM, aI_sI, aI_sL, aI_sA, aI_sM, aL_sI, aL_sL, aL_sA, aL_sM, Bdeclaration_0, Bdeclaration_11, Bdeclaration_18, Bdeclaration_20, Bdeclaration_31, Bdeclaration_36, Bdeclaration_53, Bdeclaration_55, Bdeclaration_68, Bdeclaration_73, Bdeclaration_95, Bdeclaration_97, Bdeclaration_110, Bdeclaration_114, Bdeclaration_119, Bdeclaration_124, Bdeclaration_147, Bdeclaration_154, Bdeclaration_156, Bdeclaration_179, Bdeclaration_183, Bdeclaration_184, oi_0, oi_1, oi_2, oi_21, oi_22, oi_61, Pu_cant, Pu_emit, Pj_expression, Pj_isSign, Pj_isType, Pj_isWord, Pj_take, Pj_variable]; try dsimp only
                  try simp only [hR41.e2, hR41.e14, hR41.e15, hR41.e17, hR41.e18, hR41.e36, hR41.e42, hR41.e49, hR41.e62, hR41.a3, hR41.a6, hR41.a51, hR41.a19, hR41.a63, hR41.a64, hR41.hp, hR20.e18]
                  unfold Qj_declaration
                  try dsimp only
                  exact ⟨_, rfl, rfl, Or.inl rfl⟩
                · dsimp only [Option.toList, List.cons_append, List.nil_append, Nat.beq, gI_sI, gI_sL, gI_sA, gI_sM, gL_sI, gL_sL, gL_sA, gL_sM, aI_sI, aI_sL, aI_sA, aI_sM, aL_sI, aL_sL, aL_sA, aL_sM]
                  have hR43 : Rj 1 τ43 τ43' := hr43 _ (by (repeat (first | exact hR41 | refine Rj.i ?_ rfl | refine Rj.a ?_ rfl | refine Rj.m ?_ | refine Rj.s ?_ (by decide) | refine Rj.o1 ?_ (by first | lia | (dsimp only [Nat.beq, gI_sI, gI_sL, gI_sA, gI_sM, gL_sI, gL_sL, gL_sA, gL_sM, aI_sI, aI_sL, aI_sA, aI_sM, aL_sI, aL_sL, aL_sA, aL_sM]; lia)) | refine Rj.o2 ?_ | refine Rj.f1 ?_ (by first | lia | (dsimp only [Nat.beq, gI_sI, gI_sL, gI_sA, gI_sM, gL_sI, gL_sL, gL_sA, gL_sM, aI_sI, aI_sL, aI_sA, aI_sM, aL_sI, aL_sL, aL_sA, aL_sM]; lia)) | refine Rj.f2 ?_ | refine Rj.fs ?_)))
                  have ht43 := hk43.2 3 rfl
                  have hc43 := hk43.1 2 rfl
                  try dsimp only [Nat.beq, gI_sI, gI_sL, gI_sA, gI_sM, gL_sI, gL_sL, gL_sA, gL_sM, aI_sI, aI_sL, aI_sA, aI_sM, aL_sI, aL_sL, aL_sA, aL_sM] at hx43
                  try dsimp only [Nat.beq, gI_sI, gI_sL, gI_sA, gI_sM, gL_sI, gL_sL, gL_sA, gL_sM, aI_sI, aI_sL, aI_sA, aI_sM, aL_sI, aL_sL, aL_sA, aL_sM] at ht43
                  try dsimp only [Nat.beq, gI_sI, gI_sL, gI_sA, gI_sM, gL_sI, gL_sL, gL_sA, gL_sM, aI_sI, aI_sL, aI_sA, aI_sM, aL_sI, aL_sL, aL_sA, aL_sM] at hc43
                  have hh43 := hk43.1 62 rfl
                  have hg43 := hk43.1 49 rfl
                  try dsimp only [Nat.beq, gI_sI, gI_sL, gI_sA, gI_sM, gL_sI, gL_sL, gL_sA, gL_sM, aI_sI, aI_sL, aI_sA, aI_sM, aL_sI, aL_sL, aL_sA, aL_sM] at hh43
                  try dsimp only [Nat.beq, gI_sI, gI_sL, gI_sA, gI_sM, gL_sI, gL_sL, gL_sA, gL_sM, aI_sI, aI_sL, aI_sA, aI_sM, aL_sI, aL_sL, aL_sA, aL_sM] at hg43
                  have hz43 := congrFun ht43 (gI τ43 14).toNatClampNeg
                  try simp only [hR43.e2, hR43.e14, hR43.e15, hR43.e17, hR43.e18, hR43.e36, hR43.e42, hR43.e49, hR43.e62, hR43.a3, hR43.a6, hR43.a51, hR43.a19, hR43.a63, hR43.a64, hR43.hp, hR20.e18]
                  refine ⟨fun h46 => absurd h46 (by decide), fun h46 => ⟨(by exact h46), ?_⟩⟩
                  clear h46
                  refine hB _ _ _ _ _ _ _ _ (fun m47 hm47 => ?_)
                  dsimp only [jgo, jwp, jst, jct, rfd, Bdeclaration, Nat.beq, lv_args, rlk, rs1, rs2, rdl, rky, rcd, rno, rsw, Value.category, List.filter, List.take, List.drop, List.reverse, List.reverseAux, List.cons_append, List.nil_append, Option.toList, Int.toNat, Int.reduceToNat, if_pos, if_neg, reduceIte, ↓reduceIte, Nat.reduceAdd, Nat.reduceEqDiff, Nat.reduceBEq, beq_self_eq_true, Bool.not_true, Bool.not_false, Bool.and_true, Bool.and_false, Bool.true_and, Bool.false_and, gI_sI, gI_sL, gI_sA, gI_sM, gL_sI, gL_sL, gL_sA, gL_sM, aI_sI, aI_sL, aI_sA, aI_sM, aL_sI, aL_sL, aL_sA, aL_sM, Bdeclaration_0, Bdeclaration_11, Bdeclaration_18, Bdeclaration_20, Bdeclaration_31, Bdeclaration_36, Bdeclaration_53, Bdeclaration_55, Bdeclaration_68, Bdeclaration_73, Bdeclaration_95, Bdeclaration_97, Bdeclaration_110, Bdeclaration_114, Bdeclaration_119, Bdeclaration_124, Bdeclaration_147, Bdeclaration_154, Bdeclaration_156, Bdeclaration_179, Bdeclaration_183, Bdeclaration_184, oi_0, oi_1, oi_2, oi_21, oi_22, oi_61, Pu_cant, Pu_emit, Pj_expression, Pj_isSign, Pj_isType, Pj_isWord, Pj_take, Pj_variable]; try dsimp only
                  try simp only [hR43.e2, hR43.e14, hR43.e15, hR43.e17, hR43.e18, hR43.e36, hR43.e42, hR43.e49, hR43.e62, hR43.a3, hR43.a6, hR43.a51, hR43.a19, hR43.a63, hR43.a64, hR43.hp, hR20.e18]
                  refine ⟨(by (repeat (first | exact hR43 | refine Rj.i ?_ rfl | refine Rj.a ?_ rfl | refine Rj.m ?_ | refine Rj.s ?_ (by decide) | refine Rj.o1 ?_ (by first | lia | (dsimp only [Nat.beq, gI_sI, gI_sL, gI_sA, gI_sM, gL_sI, gL_sL, gL_sA, gL_sM, aI_sI, aI_sL, aI_sA, aI_sM, aL_sI, aL_sL, aL_sA, aL_sM]; lia)) | refine Rj.o2 ?_ | refine Rj.f1 ?_ (by first | lia | (dsimp only [Nat.beq, gI_sI, gI_sL, gI_sA, gI_sM, gL_sI, gL_sL, gL_sA, gL_sM, aI_sI, aI_sL, aI_sA, aI_sM, aL_sI, aL_sL, aL_sA, aL_sM]; lia)) | refine Rj.f2 ?_ | refine Rj.fs ?_))), fun w48 τ48 w48' τ48' hq48 => ?_⟩
                  obtain ⟨b48, rfl, rfl, hb48⟩ := hq48
                  rcases hb48 with rfl | ⟨rfl, hR48, hk48⟩
                  · dsimp only [Option.toList, List.cons_append, List.nil_append, Nat.beq, gI_sI, gI_sL, gI_sA, gI_sM, gL_sI, gL_sL, gL_sA, gL_sM, aI_sI, aI_sL, aI_sA, aI_sM, aL_sI, aL_sL, aL_sA, aL_sM]
                    try simp only [hR43.e2, hR43.e14, hR43.e15, hR43.e17, hR43.e18, hR43.e36, hR43.e42, hR43.e49, hR43.e62, hR43.a3, hR43.a6, hR43.a51, hR43.a19, hR43.a63, hR43.a64, hR43.hp, hR20.e18]
                    refine ⟨fun h49 => absurd h49 (by decide), fun h49 => ⟨(by exact h49), ?_⟩⟩
                    clear h49
                    refine hB _ _ _ _ _ _ _ _ (fun m50 hm50 => ?_)
                    dsimp only [jgo, jwp, jst, jct, rfd, Bdeclaration, Nat.beq, lv_args, rlk, rs1, rs2, rdl, rky, rcd, rno, rsw, Value.category, List.filter, List.take, List.drop, List.reverse, List.reverseAux, List.cons_append, List.nil_append, Option.toList, Int.toNat, Int.reduceToNat, if_pos, if_neg, reduceIte, ↓reduceIte, Nat.reduceAdd, Nat.reduceEqDiff, Nat.reduceBEq, beq_self_eq_true, Bool.not_true, Bool.not_false, Bool.and_true, Bool.and_false, Bool.true_and, Bool.false_and, gI_sI, gI_sL, gI_sA, gI_sM, gL_sI, gL_sL, gL_sA, gL_sM, aI_sI, aI_sL, aI_sA, aI_sM, aL_sI, aL_sL, aL_sA, aL_sM, Bdeclaration_0, Bdeclaration_11, Bdeclaration_18, Bdeclaration_20, Bdeclaration_31, Bdeclaration_36, Bdeclaration_53, Bdeclaration_55, Bdeclaration_68, Bdeclaration_73, Bdeclaration_95, Bdeclaration_97, Bdeclaration_110, Bdeclaration_114, Bdeclaration_119, Bdeclaration_124, Bdeclaration_147, Bdeclaration_154, Bdeclaration_156, Bdeclaration_179, Bdeclaration_183, Bdeclaration_184, oi_0, oi_1, oi_2, oi_21, oi_22, oi_61, Pu_cant, Pu_emit, Pj_expression, Pj_isSign, Pj_isType, Pj_isWord, Pj_take, Pj_variable]; try dsimp only
                    try simp only [hR43.e2, hR43.e14, hR43.e15, hR43.e17, hR43.e18, hR43.e36, hR43.e42, hR43.e49, hR43.e62, hR43.a3, hR43.a6, hR43.a51, hR43.a19, hR43.a63, hR43.a64, hR43.hp, hR20.e18]
                    unfold Qj_declaration
                    try dsimp only
                    exact ⟨_, rfl, rfl, Or.inl rfl⟩
                  · dsimp only [Option.toList, List.cons_append, List.nil_append, Nat.beq, gI_sI, gI_sL, gI_sA, gI_sM, gL_sI, gL_sL, gL_sA, gL_sM, aI_sI, aI_sL, aI_sA, aI_sM, aL_sI, aL_sL, aL_sA, aL_sM]
                    have hh48 := hk48.1 62 rfl
                    have hg48 := hk48.1 49 rfl
                    try dsimp only [Nat.beq, gI_sI, gI_sL, gI_sA, gI_sM, gL_sI, gL_sL, gL_sA, gL_sM, aI_sI, aI_sL, aI_sA, aI_sM, aL_sI, aL_sL, aL_sA, aL_sM] at hh48
                    try dsimp only [Nat.beq, gI_sI, gI_sL, gI_sA, gI_sM, gL_sI, gL_sL, gL_sA, gL_sM, aI_sI, aI_sL, aI_sA, aI_sM, aL_sI, aL_sL, aL_sA, aL_sM] at hg48
                    try simp only [hR48.e2, hR48.e14, hR48.e15, hR48.e17, hR48.e18, hR48.e36, hR48.e42, hR48.e49, hR48.e62, hR48.a3, hR48.a6, hR48.a51, hR48.a19, hR48.a63, hR48.a64, hR48.hp, hR20.e18]
                    refine ⟨fun h51 => ⟨(by exact h51), ?_⟩, fun h51 => absurd h51 (by decide)⟩
                    clear h51
                    refine hB _ _ _ _ _ _ _ _ (fun m52 hm52 => ?_)
                    dsimp only [jgo, jwp, jst, jct, rfd, Bdeclaration, Nat.beq, lv_args, rlk, rs1, rs2, rdl, rky, rcd, rno, rsw, Value.category, List.filter, List.take, List.drop, List.reverse, List.reverseAux, List.cons_append, List.nil_append, Option.toList, Int.toNat, Int.reduceToNat, if_pos, if_neg, reduceIte, ↓reduceIte, Nat.reduceAdd, Nat.reduceEqDiff, Nat.reduceBEq, beq_self_eq_true, Bool.not_true, Bool.not_false, Bool.and_true, Bool.and_false, Bool.true_and, Bool.false_and, gI_sI, gI_sL, gI_sA, gI_sM, gL_sI, gL_sL, gL_sA, gL_sM, aI_sI, aI_sL, aI_sA, aI_sM, aL_sI, aL_sL, aL_sA, aL_sM, Bdeclaration_0, Bdeclaration_11, Bdeclaration_18, Bdeclaration_20, Bdeclaration_31, Bdeclaration_36, Bdeclaration_53, Bdeclaration_55, Bdeclaration_68, Bdeclaration_73, Bdeclaration_95, Bdeclaration_97, Bdeclaration_110, Bdeclaration_114, Bdeclaration_119, Bdeclaration_124, Bdeclaration_147, Bdeclaration_154, Bdeclaration_156, Bdeclaration_179, Bdeclaration_183, Bdeclaration_184, oi_0, oi_1, oi_2, oi_21, oi_22, oi_61, Pu_cant, Pu_emit, Pj_expression, Pj_isSign, Pj_isType, Pj_isWord, Pj_take, Pj_variable]; try dsimp only
                    try simp only [hR48.e2, hR48.e14, hR48.e15, hR48.e17, hR48.e18, hR48.e36, hR48.e42, hR48.e49, hR48.e62, hR48.a3, hR48.a6, hR48.a51, hR48.a19, hR48.a63, hR48.a64, hR48.hp, hR20.e18]
                    refine ⟨⟨trivial, trivial⟩, fun w53 τ53 w53' τ53' hq53 => ?_⟩
                    obtain ⟨⟨rfl, hE53⟩, rfl, hF53⟩ := hq53
                    have hR53 : Rj 1 τ53 τ53' := Rj.em (by (repeat (first | exact hR48 | refine Rj.i ?_ rfl | refine Rj.a ?_ rfl | refine Rj.m ?_ | refine Rj.s ?_ (by decide) | refine Rj.o1 ?_ (by first | lia | (dsimp only [Nat.beq, gI_sI, gI_sL, gI_sA, gI_sM, gL_sI, gL_sL, gL_sA, gL_sM, aI_sI, aI_sL, aI_sA, aI_sM, aL_sI, aL_sL, aL_sA, aL_sM]; lia)) | refine Rj.o2 ?_ | refine Rj.f1 ?_ (by first | lia | (dsimp only [Nat.beq, gI_sI, gI_sL, gI_sA, gI_sM, gL_sI, gL_sL, gL_sA, gL_sM, aI_sI, aI_sL, aI_sA, aI_sM, aL_sI, aL_sL, aL_sA, aL_sM]; lia)) | refine Rj.f2 ?_ | refine Rj.fs ?_))) hE53 hF53 (by first | exact fun _ => rfl | exact fun q => absurd q (by decide))
                    have hp53 := hE53.1 14 (by decide)
                    have ho53 := hE53.1 29 (by decide)
                    have hh53 := hE53.1 62 (by decide)
                    have hg53 := hE53.1 49 (by decide)
                    have hw53 := hE53.1 34 (by decide)
                    have hv53 := hF53.1 34 (by decide)
                    have ht53 := hE53.2.2.2.2.1 3 (by decide)
                    try dsimp only [Nat.beq, gI_sI, gI_sL, gI_sA, gI_sM, gL_sI, gL_sL, gL_sA, gL_sM, aI_sI, aI_sL, aI_sA, aI_sM, aL_sI, aL_sL, aL_sA, aL_sM] at hp53
                    try dsimp only [Nat.beq, gI_sI, gI_sL, gI_sA, gI_sM, gL_sI, gL_sL, gL_sA, gL_sM, aI_sI, aI_sL, aI_sA, aI_sM, aL_sI, aL_sL, aL_sA, aL_sM] at ho53
                    try dsimp only [Nat.beq, gI_sI, gI_sL, gI_sA, gI_sM, gL_sI, gL_sL, gL_sA, gL_sM, aI_sI, aI_sL, aI_sA, aI_sM, aL_sI, aL_sL, aL_sA, aL_sM] at hh53
                    try dsimp only [Nat.beq, gI_sI, gI_sL, gI_sA, gI_sM, gL_sI, gL_sL, gL_sA, gL_sM, aI_sI, aI_sL, aI_sA, aI_sM, aL_sI, aL_sL, aL_sA, aL_sM] at hg53
                    try dsimp only [Nat.beq, gI_sI, gI_sL, gI_sA, gI_sM, gL_sI, gL_sL, gL_sA, gL_sM, aI_sI, aI_sL, aI_sA, aI_sM, aL_sI, aL_sL, aL_sA, aL_sM] at hw53
                    try dsimp only [Nat.beq, gI_sI, gI_sL, gI_sA, gI_sM, gL_sI, gL_sL, gL_sA, gL_sM, aI_sI, aI_sL, aI_sA, aI_sM, aL_sI, aL_sL, aL_sA, aL_sM] at hv53
                    try dsimp only [Nat.beq, gI_sI, gI_sL, gI_sA, gI_sM, gL_sI, gL_sL, gL_sA, gL_sM, aI_sI, aI_sL, aI_sA, aI_sM, aL_sI, aL_sL, aL_sA, aL_sM] at ht53
                    have hz53 := congrFun ht53 (gI τ53 14).toNatClampNeg
                    dsimp only [Option.toList, List.cons_append, List.nil_append, Nat.beq, gI_sI, gI_sL, gI_sA, gI_sM, gL_sI, gL_sL, gL_sA, gL_sM, aI_sI, aI_sL, aI_sA, aI_sM, aL_sI, aL_sL, aL_sA, aL_sM]
                    try simp only [hR53.e2, hR53.e14, hR53.e15, hR53.e17, hR53.e18, hR53.e36, hR53.e42, hR53.e49, hR53.e62, hR53.a3, hR53.a6, hR53.a51, hR53.a19, hR53.a63, hR53.a64, hR53.hp, hR20.e18, hR48.e18]
                    refine ⟨fun h54 => absurd h54 (by decide), fun h54 => ⟨(by exact h54), ?_⟩⟩
                    clear h54
                    refine hB _ _ _ _ _ _ _ _ (fun m55 hm55 => ?_)
                    dsimp only [jgo, jwp, jst, jct, rfd, Bdeclaration, Nat.beq, lv_args, rlk, rs1, rs2, rdl, rky, rcd, rno, rsw, Value.category, List.filter, List.take, List.drop, List.reverse, List.reverseAux, List.cons_append, List.nil_append, Option.toList, Int.toNat, Int.reduceToNat, if_pos, if_neg, reduceIte, ↓reduceIte, Nat.reduceAdd, Nat.reduceEqDiff, Nat.reduceBEq, beq_self_eq_true, Bool.not_true, Bool.not_false, Bool.and_true, Bool.and_false, Bool.true_and, Bool.false_and, gI_sI, gI_sL, gI_sA, gI_sM, gL_sI, gL_sL, gL_sA, gL_sM, aI_sI, aI_sL, aI_sA, aI_sM, aL_sI, aL_sL, aL_sA, aL_sM, Bdeclaration_0, Bdeclaration_11, Bdeclaration_18, Bdeclaration_20, Bdeclaration_31, Bdeclaration_36, Bdeclaration_53, Bdeclaration_55, Bdeclaration_68, Bdeclaration_73, Bdeclaration_95, Bdeclaration_97, Bdeclaration_110, Bdeclaration_114, Bdeclaration_119, Bdeclaration_124, Bdeclaration_147, Bdeclaration_154, Bdeclaration_156, Bdeclaration_179, Bdeclaration_183, Bdeclaration_184, oi_0, oi_1, oi_2, oi_21, oi_22, oi_61, Pu_cant, Pu_emit, Pj_expression, Pj_isSign, Pj_isType, Pj_isWord, Pj_take, Pj_variable]; try dsimp only
                    try simp only [hR53.e2, hR53.e14, hR53.e15, hR53.e17, hR53.e18, hR53.e36, hR53.e42, hR53.e49, hR53.e62, hR53.a3, hR53.a6, hR53.a51, hR53.a19, hR53.a63, hR53.a64, hR53.hp, hR20.e18, hR48.e18]
                    refine hB _ _ _ _ _ _ _ _ (fun m56 hm56 => ?_)
                    dsimp only [jgo, jwp, jst, jct, rfd, Bdeclaration, Nat.beq, lv_args, rlk, rs1, rs2, rdl, rky, rcd, rno, rsw, Value.category, List.filter, List.take, List.drop, List.reverse, List.reverseAux, List.cons_append, List.nil_append, Option.toList, Int.toNat, Int.reduceToNat, if_pos, if_neg, reduceIte, ↓reduceIte, Nat.reduceAdd, Nat.reduceEqDiff, Nat.reduceBEq, beq_self_eq_true, Bool.not_true, Bool.not_false, Bool.and_true, Bool.and_false, Bool.true_and, Bool.false_and, gI_sI, gI_sL, gI_sA, gI_sM, gL_sI, gL_sL, gL_sA, gL_sM, aI_sI, aI_sL, aI_sA, aI_sM, aL_sI, aL_sL, aL_sA, aL_sM, Bdeclaration_0, Bdeclaration_11, Bdeclaration_18, Bdeclaration_20, Bdeclaration_31, Bdeclaration_36, Bdeclaration_53, Bdeclaration_55, Bdeclaration_68, Bdeclaration_73, Bdeclaration_95, Bdeclaration_97, Bdeclaration_110, Bdeclaration_114, Bdeclaration_119, Bdeclaration_124, Bdeclaration_147, Bdeclaration_154, Bdeclaration_156, Bdeclaration_179, Bdeclaration_183, Bdeclaration_184, oi_0, oi_1, oi_2, oi_21, oi_22, oi_61, Pu_cant, Pu_emit, Pj_expression, Pj_isSign, Pj_isType, Pj_isWord, Pj_take, Pj_variable]; try dsimp only
                    try simp only [hR53.e2, hR53.e14, hR53.e15, hR53.e17, hR53.e18, hR53.e36, hR53.e42, hR53.e49, hR53.e62, hR53.a3, hR53.a6, hR53.a51, hR53.a19, hR53.a63, hR53.a64, hR53.hp, hR20.e18, hR48.e18]
                    intro p57 q57
                    try simp only [hR53.e2, hR53.e14, hR53.e15, hR53.e17, hR53.e18, hR53.e36, hR53.e42, hR53.e49, hR53.e62, hR53.a3, hR53.a6, hR53.a51, hR53.a19, hR53.a63, hR53.a64, hR53.hp, hR20.e18, hR48.e18]
                    unfold Qj_declaration
                    try dsimp only
                    exact ⟨_, rfl, rfl, Or.inr ⟨rfl, by (repeat (first | exact hR53 | refine Rj.i ?_ rfl | refine Rj.a ?_ rfl | refine Rj.m ?_ | refine Rj.s ?_ (by decide) | refine Rj.o1 ?_ (by first | lia | (dsimp only [Nat.beq, gI_sI, gI_sL, gI_sA, gI_sM, gL_sI, gL_sL, gL_sA, gL_sM, aI_sI, aI_sL, aI_sA, aI_sM, aL_sI, aL_sL, aL_sA, aL_sM]; lia)) | refine Rj.o2 ?_ | refine Rj.f1 ?_ (by first | lia | (dsimp only [Nat.beq, gI_sI, gI_sL, gI_sA, gI_sM, gL_sI, gL_sL, gL_sA, gL_sM, aI_sI, aI_sL, aI_sA, aI_sM, aL_sI, aL_sL, aL_sA, aL_sM]; lia)) | refine Rj.f2 ?_ | refine Rj.fs ?_)), by (repeat (first | exact Kx.rf | refine Kx.i ?_ rfl | refine Kx.a ?_ rfl | refine Kx.m ?_ | refine Kx.tr ?_ hE53.kx | refine Kx.tr ?_ hk48 | refine Kx.tr ?_ hk43 | refine Kx.tr ?_ hE41.kx | refine Kx.tr ?_ hk20 | refine Kx.tr ?_ hk12))⟩⟩
          · refine hB _ _ _ _ _ _ _ _ (fun m58 hm58 => ?_)
            dsimp only [jgo, jwp, jst, jct, rfd, Bdeclaration, Nat.beq, lv_args, rlk, rs1, rs2, rdl, rky, rcd, rno, rsw, Value.category, List.filter, List.take, List.drop, List.reverse, List.reverseAux, List.cons_append, List.nil_append, Option.toList, Int.toNat, Int.reduceToNat, if_pos, if_neg, reduceIte, ↓reduceIte, Nat.reduceAdd, Nat.reduceEqDiff, Nat.reduceBEq, beq_self_eq_true, Bool.not_true, Bool.not_false, Bool.and_true, Bool.and_false, Bool.true_and, Bool.false_and, gI_sI, gI_sL, gI_sA, gI_sM, gL_sI, gL_sL, gL_sA, gL_sM, aI_sI, aI_sL, aI_sA, aI_sM, aL_sI, aL_sL, aL_sA, aL_sM, Bdeclaration_0, Bdeclaration_11, Bdeclaration_18, Bdeclaration_20, Bdeclaration_31, Bdeclaration_36, Bdeclaration_53, Bdeclaration_55, Bdeclaration_68, Bdeclaration_73, Bdeclaration_95, Bdeclaration_97, Bdeclaration_110, Bdeclaration_114, Bdeclaration_119, Bdeclaration_124, Bdeclaration_147, Bdeclaration_154, Bdeclaration_156, Bdeclaration_179, Bdeclaration_183, Bdeclaration_184, oi_0, oi_1, oi_2, oi_21, oi_22, oi_61, Pu_cant, Pu_emit, Pj_expression, Pj_isSign, Pj_isType, Pj_isWord, Pj_take, Pj_variable]; try dsimp only
            try simp only [hR12.e2, hR12.e14, hR12.e15, hR12.e17, hR12.e18, hR12.e36, hR12.e42, hR12.e49, hR12.e62, hR12.a3, hR12.a6, hR12.a51, hR12.a19, hR12.a63, hR12.a64, hR12.hp]
            refine ⟨⟨trivial, trivial⟩, fun w59 τ59 w59' τ59' hq59 => ?_⟩
            obtain ⟨rfl, rfl⟩ := hq59
            dsimp only [Option.toList, List.cons_append, List.nil_append, Nat.beq, gI_sI, gI_sL, gI_sA, gI_sM, gL_sI, gL_sL, gL_sA, gL_sM, aI_sI, aI_sL, aI_sA, aI_sM, aL_sI, aL_sL, aL_sA, aL_sM]
            try simp only [hR12.e2, hR12.e14, hR12.e15, hR12.e17, hR12.e18, hR12.e36, hR12.e42, hR12.e49, hR12.e62, hR12.a3, hR12.a6, hR12.a51, hR12.a19, hR12.a63, hR12.a64, hR12.hp]
            unfold Qj_declaration
            try dsimp only
            exact ⟨_, rfl, rfl, Or.inl rfl⟩
    · dsimp only [Option.toList, List.cons_append, List.nil_append, Nat.beq, gI_sI, gI_sL, gI_sA, gI_sM, gL_sI, gL_sL, gL_sA, gL_sM, aI_sI, aI_sL, aI_sA, aI_sM, aL_sI, aL_sL, aL_sA, aL_sM]
      try dsimp only [Nat.beq, gI_sI, gI_sL, gI_sA, gI_sM, gL_sI, gL_sL, gL_sA, gL_sM, aI_sI, aI_sL, aI_sA, aI_sM, aL_sI, aL_sL, aL_sA, aL_sM] at hf2
      try simp only [hR.e2, hR.e14, hR.e15, hR.e17, hR.e18, hR.e36, hR.e42, hR.e49, hR.e62, hR.a3, hR.a6, hR.a51, hR.a19, hR.a63, hR.a64, hR.hp]
      refine ⟨fun h60 => absurd h60 (by decide), fun h60 => ⟨(by exact h60), ?_⟩⟩
      clear h60
      refine hB _ _ _ _ _ _ _ _ (fun m61 hm61 => ?_)
      dsimp only [jgo, jwp, jst, jct, rfd, Bdeclaration, Nat.beq, lv_args, rlk, rs1, rs2, rdl, rky, rcd, rno, rsw, Value.category, List.filter, List.take, List.drop, List.reverse, List.reverseAux, List.cons_append, List.nil_append, Option.toList, Int.toNat, Int.reduceToNat, if_pos, if_neg, reduceIte, ↓reduceIte, Nat.reduceAdd, Nat.reduceEqDiff, Nat.reduceBEq, beq_self_eq_true, Bool.not_true, Bool.not_false, Bool.and_true, Bool.and_false, Bool.true_and, Bool.false_and, gI_sI, gI_sL, gI_sA, gI_sM, gL_sI, gL_sL, gL_sA, gL_sM, aI_sI, aI_sL, aI_sA, aI_sM, aL_sI, aL_sL, aL_sA, aL_sM, Bdeclaration_0, Bdeclaration_11, Bdeclaration_18, Bdeclaration_20, Bdeclaration_31, Bdeclaration_36, Bdeclaration_53, Bdeclaration_55, Bdeclaration_68, Bdeclaration_73, Bdeclaration_95, Bdeclaration_97, Bdeclaration_110, Bdeclaration_114, Bdeclaration_119, Bdeclaration_124, Bdeclaration_147, Bdeclaration_154, Bdeclaration_156, Bdeclaration_179, Bdeclaration_183, Bdeclaration_184, oi_0, oi_1, oi_2, oi_21, oi_22, oi_61, Pu_cant, Pu_emit, Pj_expression, Pj_isSign, Pj_isType, Pj_isWord, Pj_take, Pj_variable]; try dsimp only
      try simp only [hR.e2, hR.e14, hR.e15, hR.e17, hR.e18, hR.e36, hR.e42, hR.e49, hR.e62, hR.a3, hR.a6, hR.a51, hR.a19, hR.a63, hR.a64, hR.hp]
      refine ⟨⟨(Rj.w (md := 1) (by (repeat (first | exact hR | refine Rj.i ?_ rfl | refine Rj.a ?_ rfl | refine Rj.m ?_ | refine Rj.s ?_ (by decide) | refine Rj.o1 ?_ (by first | lia | (dsimp only [Nat.beq, gI_sI, gI_sL, gI_sA, gI_sM, gL_sI, gL_sL, gL_sA, gL_sM, aI_sI, aI_sL, aI_sA, aI_sM, aL_sI, aL_sL, aL_sA, aL_sM]; lia)) | refine Rj.o2 ?_ | refine Rj.f1 ?_ (by first | lia | (dsimp only [Nat.beq, gI_sI, gI_sL, gI_sA, gI_sM, gL_sI, gL_sL, gL_sA, gL_sM, aI_sI, aI_sL, aI_sA, aI_sM, aL_sI, aL_sL, aL_sA, aL_sM]; lia)) | refine Rj.f2 ?_ | refine Rj.fs ?_)))), by lia, by lia⟩, fun w62 τ62 w62' τ62' hq62 => ?_⟩
      obtain ⟨b62, rfl, rfl, hb62⟩ := hq62
      rcases hb62 with rfl | ⟨rfl, hr62, hk62, hx62⟩
      · dsimp only [Option.toList, List.cons_append, List.nil_append, Nat.beq, gI_sI, gI_sL, gI_sA, gI_sM, gL_sI, gL_sL, gL_sA, gL_sM, aI_sI, aI_sL, aI_sA, aI_sM, aL_sI, aL_sL, aL_sA, aL_sM]
        try simp only [hR.e2, hR.e14, hR.e15, hR.e17, hR.e18, hR.e36, hR.e42, hR.e49, hR.e62, hR.a3, hR.a6, hR.a51, hR.a19, hR.a63, hR.a64, hR.hp]
        refine ⟨fun h63 => absurd h63 (by decide), fun h63 => ⟨(by exact h63), ?_⟩⟩
        clear h63
        refine hB _ _ _ _ _ _ _ _ (fun m64 hm64 => ?_)
        dsimp only [jgo, jwp, jst, jct, rfd, Bdeclaration, Nat.beq, lv_args, rlk, rs1, rs2, rdl, rky, rcd, rno, rsw, Value.category, List.filter, List.take, List.drop, List.reverse, List.reverseAux, List.cons_append, List.nil_append, Option.toList, Int.toNat, Int.reduceToNat, if_pos, if_neg, reduceIte, ↓reduceIte, Nat.reduceAdd, Nat.reduceEqDiff, Nat.reduceBEq, beq_self_eq_true, Bool.not_true, Bool.not_false, Bool.and_true, Bool.and_false, Bool.true_and, Bool.false_and, gI_sI, gI_sL, gI_sA, gI_sM, gL_sI, gL_sL, gL_sA, gL_sM, aI_sI, aI_sL, aI_sA, aI_sM, aL_sI, aL_sL, aL_sA, aL_sM, Bdeclaration_0, Bdeclaration_11, Bdeclaration_18, Bdeclaration_20, Bdeclaration_31, Bdeclaration_36, Bdeclaration_53, Bdeclaration_55, Bdeclaration_68, Bdeclaration_73, Bdeclaration_95, Bdeclaration_97, Bdeclaration_110, Bdeclaration_114, Bdeclaration_119, Bdeclaration_124, Bdeclaration_147, Bdeclaration_154, Bdeclaration_156, Bdeclaration_179, Bdeclaration_183, Bdeclaration_184, oi_0, oi_1, oi_2, oi_21, oi_22, oi_61, Pu_cant, Pu_emit, Pj_expression, Pj_isSign, Pj_isType, Pj_isWord, Pj_take, Pj_variable]; try dsimp only
        try simp only [hR.e2, hR.e14, hR.e15, hR.e17, hR.e18, hR.e36, hR.e42, hR.e49, hR.e62, hR.a3, hR.a6, hR.a51, hR.a19, hR.a63, hR.a64, hR.hp]
        unfold Qj_declaration
        try dsimp only
        exact ⟨_, rfl, rfl, Or.inl rfl⟩
      · dsimp only [Option.toList, List.cons_append, List.nil_append, Nat.beq, gI_sI, gI_sL, gI_sA, gI_sM, gL_sI, gL_sL, gL_sA, gL_sM, aI_sI, aI_sL, aI_sA, aI_sM, aL_sI, aL_sL, aL_sA, aL_sM]
        have hR62 : Rj 1 τ62 τ62' := hr62 _ (by (repeat (first | exact hR | refine Rj.i ?_ rfl | refine Rj.a ?_ rfl | refine Rj.m ?_ | refine Rj.s ?_ (by decide) | refine Rj.o1 ?_ (by first | lia | (dsimp only [Nat.beq, gI_sI, gI_sL, gI_sA, gI_sM, gL_sI, gL_sL, gL_sA, gL_sM, aI_sI, aI_sL, aI_sA, aI_sM, aL_sI, aL_sL, aL_sA, aL_sM]; lia)) | refine Rj.o2 ?_ | refine Rj.f1 ?_ (by first | lia | (dsimp only [Nat.beq, gI_sI, gI_sL, gI_sA, gI_sM, gL_sI, gL_sL, gL_sA, gL_sM, aI_sI, aI_sL, aI_sA, aI_sM, aL_sI, aL_sL, aL_sA, aL_sM]; lia)) | refine Rj.f2 ?_ | refine Rj.fs ?_)))
        have ht62 := hk62.2 3 rfl
        have hc62 := hk62.1 2 rfl
        try dsimp only [Nat.beq, gI_sI, gI_sL, gI_sA, gI_sM, gL_sI, gL_sL, gL_sA, gL_sM, aI_sI, aI_sL, aI_sA, aI_sM, aL_sI, aL_sL, aL_sA, aL_sM] at hx62
        try dsimp only [Nat.beq, gI_sI, gI_sL, gI_sA, gI_sM, gL_sI, gL_sL, gL_sA, gL_sM, aI_sI, aI_sL, aI_sA, aI_sM, aL_sI, aL_sL, aL_sA, aL_sM] at ht62
        try dsimp only [Nat.beq, gI_sI, gI_sL, gI_sA, gI_sM, gL_sI, gL_sL, gL_sA, gL_sM, aI_sI, aI_sL, aI_sA, aI_sM, aL_sI, aL_sL, aL_sA, aL_sM] at hc62
        have hh62 := hk62.1 62 rfl
        have hg62 := hk62.1 49 rfl
        try dsimp only [Nat.beq, gI_sI, gI_sL, gI_sA, gI_sM, gL_sI, gL_sL, gL_sA, gL_sM, aI_sI, aI_sL, aI_sA, aI_sM, aL_sI, aL_sL, aL_sA, aL_sM] at hh62
        try dsimp only [Nat.beq, gI_sI, gI_sL, gI_sA, gI_sM, gL_sI, gL_sL, gL_sA, gL_sM, aI_sI, aI_sL, aI_sA, aI_sM, aL_sI, aL_sL, aL_sA, aL_sM] at hg62
        have hz62 := congrFun ht62 (gI τ62 14).toNatClampNeg
        try simp only [hR62.e2, hR62.e14, hR62.e15, hR62.e17, hR62.e18, hR62.e36, hR62.e42, hR62.e49, hR62.e62, hR62.a3, hR62.a6, hR62.a51, hR62.a19, hR62.a63, hR62.a64, hR62.hp]
        refine ⟨fun h65 => ⟨(by exact h65), ?_⟩, fun h65 => absurd h65 (by decide)⟩
        clear h65
        refine hB _ _ _ _ _ _ _ _ (fun m66 hm66 => ?_)
        dsimp only [jgo, jwp, jst, jct, rfd, Bdeclaration, Nat.beq, lv_args, rlk, rs1, rs2, rdl, rky, rcd, rno, rsw, Value.category, List.filter, List.take, List.drop, List.reverse, List.reverseAux, List.cons_append, List.nil_append, Option.toList, Int.toNat, Int.reduceToNat, if_pos, if_neg, reduceIte, ↓reduceIte, Nat.reduceAdd, Nat.reduceEqDiff, Nat.reduceBEq, beq_self_eq_true, Bool.not_true, Bool.not_false, Bool.and_true, Bool.and_false, Bool.true_and, Bool.false_and, gI_sI, gI_sL, gI_sA, gI_sM, gL_sI, gL_sL, gL_sA, gL_sM, aI_sI, aI_sL, aI_sA, aI_sM, aL_sI, aL_sL, aL_sA, aL_sM, Bdeclaration_0, Bdeclaration_11, Bdeclaration_18, Bdeclaration_20, Bdeclaration_31, Bdeclaration_36, Bdeclaration_53, Bdeclaration_55, Bdeclaration_68, Bdeclaration_73, Bdeclaration_95, Bdeclaration_97, Bdeclaration_110, Bdeclaration_114, Bdeclaration_119, Bdeclaration_124, Bdeclaration_147, Bdeclaration_154, Bdeclaration_156, Bdeclaration_179, Bdeclaration_183, Bdeclaration_184, oi_0, oi_1, oi_2, oi_21, oi_22, oi_61, Pu_cant, Pu_emit, Pj_expression, Pj_isSign, Pj_isType, Pj_isWord, Pj_take, Pj_variable]; try dsimp only
        try simp only [hR62.e2, hR62.e14, hR62.e15, hR62.e17, hR62.e18, hR62.e36, hR62.e42, hR62.e49, hR62.e62, hR62.a3, hR62.a6, hR62.a51, hR62.a19, hR62.a63, hR62.a64, hR62.hp]
        refine ⟨⟨(Rj.w (md := 1) (by (repeat (first | exact hR62 | refine Rj.i ?_ rfl | refine Rj.a ?_ rfl | refine Rj.m ?_ | refine Rj.s ?_ (by decide) | refine Rj.o1 ?_ (by first | lia | (dsimp only [Nat.beq, gI_sI, gI_sL, gI_sA, gI_sM, gL_sI, gL_sL, gL_sA, gL_sM, aI_sI, aI_sL, aI_sA, aI_sM, aL_sI, aL_sL, aL_sA, aL_sM]; lia)) | refine Rj.o2 ?_ | refine Rj.f1 ?_ (by first | lia | (dsimp only [Nat.beq, gI_sI, gI_sL, gI_sA, gI_sM, gL_sI, gL_sL, gL_sA, gL_sM, aI_sI, aI_sL, aI_sA, aI_sM, aL_sI, aL_sL, aL_sA, aL_sM]; lia)) | refine Rj.f2 ?_ | refine Rj.fs ?_)))), (by first | exact True.intro | rfl), (by first | exact hR62.hp | trivial)⟩, fun w67 τ67 w67' τ67' hq67 => ?_⟩
        obtain ⟨b67, rfl, rfl, rfl, rfl, hb67⟩ := hq67
        rcases hb67 with rfl | ⟨rfl, hf67⟩
        · dsimp only [Option.toList, List.cons_append, List.nil_append, Nat.beq, gI_sI, gI_sL, gI_sA, gI_sM, gL_sI, gL_sL, gL_sA, gL_sM, aI_sI, aI_sL, aI_sA, aI_sM, aL_sI, aL_sL, aL_sA, aL_sM]
          try simp only [hR62.e2, hR62.e14, hR62.e15, hR62.e17, hR62.e18, hR62.e36, hR62.e42, hR62.e49, hR62.e62, hR62.a3, hR62.a6, hR62.a51, hR62.a19, hR62.a63, hR62.a64, hR62.hp]
          refine ⟨fun h68 => absurd h68 (by decide), fun h68 => ⟨(by exact h68), ?_⟩⟩
          clear h68
          refine hB _ _ _ _ _ _ _ _ (fun m69 hm69 => ?_)
          dsimp only [jgo, jwp, jst, jct, rfd, Bdeclaration, Nat.beq, lv_args, rlk, rs1, rs2, rdl, rky, rcd, rno, rsw, Value.category, List.filter, List.take, List.drop, List.reverse, List.reverseAux, List.cons_append, List.nil_append, Option.toList, Int.toNat, Int.reduceToNat, if_pos, if_neg, reduceIte, ↓reduceIte, Nat.reduceAdd, Nat.reduceEqDiff, Nat.reduceBEq, beq_self_eq_true, Bool.not_true, Bool.not_false, Bool.and_true, Bool.and_false, Bool.true_and, Bool.false_and, gI_sI, gI_sL, gI_sA, gI_sM, gL_sI, gL_sL, gL_sA, gL_sM, aI_sI, aI_sL, aI_sA, aI_sM, aL_sI, aL_sL, aL_sA, aL_sM, Bdeclaration_0, Bdeclaration_11, Bdeclaration_18, Bdeclaration_20, Bdeclaration_31, Bdeclaration_36, Bdeclaration_53, Bdeclaration_55, Bdeclaration_68, Bdeclaration_73, Bdeclaration_95, Bdeclaration_97, Bdeclaration_110, Bdeclaration_114, Bdeclaration_119, Bdeclaration_124, Bdeclaration_147, Bdeclaration_154, Bdeclaration_156, Bdeclaration_179, Bdeclaration_183, Bdeclaration_184, oi_0, oi_1, oi_2, oi_21, oi_22, oi_61, Pu_cant, Pu_emit, Pj_expression, Pj_isSign, Pj_isType, Pj_isWord, Pj_take, Pj_variable]; try dsimp only
          try simp only [hR62.e2, hR62.e14, hR62.e15, hR62.e17, hR62.e18, hR62.e36, hR62.e42, hR62.e49, hR62.e62, hR62.a3, hR62.a6, hR62.a51, hR62.a19, hR62.a63, hR62.a64, hR62.hp]
          refine ⟨⟨trivial, trivial⟩, fun w70 τ70 w70' τ70' hq70 => ?_⟩
          obtain ⟨rfl, rfl⟩ := hq70
          dsimp only [Option.toList, List.cons_append, List.nil_append, Nat.beq, gI_sI, gI_sL, gI_sA, gI_sM, gL_sI, gL_sL, gL_sA, gL_sM, aI_sI, aI_sL, aI_sA, aI_sM, aL_sI, aL_sL, aL_sA, aL_sM]
          try simp only [hR62.e2, hR62.e14, hR62.e15, hR62.e17, hR62.e18, hR62.e36, hR62.e42, hR62.e49, hR62.e62, hR62.a3, hR62.a6, hR62.a51, hR62.a19, hR62.a63, hR62.a64, hR62.hp]
          unfold Qj_declaration
          try dsimp only
          exact ⟨_, rfl, rfl, Or.inl rfl⟩
        · dsimp only [Option.toList, List.cons_append, List.nil_append, Nat.beq, gI_sI, gI_sL, gI_sA, gI_sM, gL_sI, gL_sL, gL_sA, gL_sM, aI_sI, aI_sL, aI_sA, aI_sM, aL_sI, aL_sL, aL_sA, aL_sM]
          try dsimp only [Nat.beq, gI_sI, gI_sL, gI_sA, gI_sM, gL_sI, gL_sL, gL_sA, gL_sM, aI_sI, aI_sL, aI_sA, aI_sM, aL_sI, aL_sL, aL_sA, aL_sM] at hf67
          try simp only [hR62.e2, hR62.e14, hR62.e15, hR62.e17, hR62.e18, hR62.e36, hR62.e42, hR62.e49, hR62.e62, hR62.a3, hR62.a6, hR62.a51, hR62.a19, hR62.a63, hR62.a64, hR62.hp]
          refine ⟨fun h71 => ⟨(by exact h71), ?_⟩, fun h71 => absurd h71 (by decide)⟩
          clear h71
          refine hB _ _ _ _ _ _ _ _ (fun m72 hm72 => ?_)
          dsimp only [jgo, jwp, jst, jct, rfd, Bdeclaration, Nat.beq, lv_args, rlk, rs1, rs2, rdl, rky, rcd, rno, rsw, Value.category, List.filter, List.take, List.drop, List.reverse, List.reverseAux, List.cons_append, List.nil_append, Option.toList, Int.toNat, Int.reduceToNat, if_pos, if_neg, reduceIte, ↓reduceIte, Nat.reduceAdd, Nat.reduceEqDiff, Nat.reduceBEq, beq_self_eq_true, Bool.not_true, Bool.not_false, Bool.and_true, Bool.and_false, Bool.true_and, Bool.false_and, gI_sI, gI_sL, gI_sA, gI_sM, gL_sI, gL_sL, gL_sA, gL_sM, aI_sI, aI_sL, aI_sA, aI_sM, aL_sI, aL_sL, aL_sA, aL_sM, Bdeclaration_0, Bdeclaration_11, Bdeclaration_18, Bdeclaration_20, Bdeclaration_31, Bdeclaration_36, Bdeclaration_53, Bdeclaration_55, Bdeclaration_68, Bdeclaration_73, Bdeclaration_95, Bdeclaration_97, Bdeclaration_110, Bdeclaration_114, Bdeclaration_119, Bdeclaration_124, Bdeclaration_147, Bdeclaration_154, Bdeclaration_156, Bdeclaration_179, Bdeclaration_183, Bdeclaration_184, oi_0, oi_1, oi_2, oi_21, oi_22, oi_61, Pu_cant, Pu_emit, Pj_expression, Pj_isSign, Pj_isType, Pj_isWord, Pj_take, Pj_variable]; try dsimp only
          try simp only [hR62.e2, hR62.e14, hR62.e15, hR62.e17, hR62.e18, hR62.e36, hR62.e42, hR62.e49, hR62.e62, hR62.a3, hR62.a6, hR62.a51, hR62.a19, hR62.a63, hR62.a64, hR62.hp]
          intro p73 q73
          try simp only [hR62.e2, hR62.e14, hR62.e15, hR62.e17, hR62.e18, hR62.e36, hR62.e42, hR62.e49, hR62.e62, hR62.a3, hR62.a6, hR62.a51, hR62.a19, hR62.a63, hR62.a64, hR62.hp]
          refine ⟨⟨(Rj.w (md := 1) (by (repeat (first | exact hR62 | refine Rj.i ?_ rfl | refine Rj.a ?_ rfl | refine Rj.m ?_ | refine Rj.s ?_ (by decide) | refine Rj.o1 ?_ (by first | lia | (dsimp only [Nat.beq, gI_sI, gI_sL, gI_sA, gI_sM, gL_sI, gL_sL, gL_sA, gL_sM, aI_sI, aI_sL, aI_sA, aI_sM, aL_sI, aL_sL, aL_sA, aL_sM]; lia)) | refine Rj.o2 ?_ | refine Rj.f1 ?_ (by first | lia | (dsimp only [Nat.beq, gI_sI, gI_sL, gI_sA, gI_sM, gL_sI, gL_sL, gL_sA, gL_sM, aI_sI, aI_sL, aI_sA, aI_sM, aL_sI, aL_sL, aL_sA, aL_sM]; lia)) | refine Rj.f2 ?_ | refine Rj.fs ?_)))), by lia, by lia⟩, fun w74 τ74 w74' τ74' hq74 => ?_⟩
          obtain ⟨b74, rfl, rfl, hb74⟩ := hq74
          rcases hb74 with rfl | ⟨rfl, hr74, hk74, hx74⟩
          · dsimp only [Option.toList, List.cons_append, List.nil_append, Nat.beq, gI_sI, gI_sL, gI_sA, gI_sM, gL_sI, gL_sL, gL_sA, gL_sM, aI_sI, aI_sL, aI_sA, aI_sM, aL_sI, aL_sL, aL_sA, aL_sM]
            try simp only [hR62.e2, hR62.e14, hR62.e15, hR62.e17, hR62.e18, hR62.e36, hR62.e42, hR62.e49, hR62.e62, hR62.a3, hR62.a6, hR62.a51, hR62.a19, hR62.a63, hR62.a64, hR62.hp]
            refine ⟨fun h75 => absurd h75 (by decide), fun h75 => ⟨(by exact h75), ?_⟩⟩
            clear h75
            refine hB _ _ _ _ _ _ _ _ (fun m76 hm76 => ?_)
            dsimp only [jgo, jwp, jst, jct, rfd, Bdeclaration, Nat.beq, lv_args, rlk, rs1, rs2, rdl, rky, rcd, rno, rsw, Value.category, List.filter, List.take, List.drop, List.reverse, List.reverseAux, List.cons_append, List.nil_append, Option.toList, Int.toNat, Int.reduceToNat, if_pos, if_neg, reduceIte, ↓reduceIte, Nat.reduceAdd, Nat.reduceEqDiff, Nat.reduceBEq, beq_self_eq_true, Bool.not_true, Bool.not_false, Bool.and_true, Bool.and_false, Bool.true_and, Bool.false_and, gI_sI, gI_sL, gI_sA, gI_sM, gL_sI, gL_sL, gL_sA, gL_sM, aI_sI, aI_sL, aI_sA, aI_sM, aL_sI, aL_sL, aL_sA, aL_sM, Bdeclaration_0, Bdeclaration_11, Bdeclaration_18, Bdeclaration_20, Bdeclaration_31, Bdeclaration_36, Bdeclaration_53, Bdeclaration_55, Bdeclaration_68, Bdeclaration_73, Bdeclaration_95, Bdeclaration_97, Bdeclaration_110, Bdeclaration_114, Bdeclaration_119, Bdeclaration_124, Bdeclaration_147, Bdeclaration_154, Bdeclaration_156, Bdeclaration_179, Bdeclaration_183, Bdeclaration_184, oi_0, oi_1, oi_2, oi_21, oi_22, oi_61, Pu_cant, Pu_emit, Pj_expression, Pj_isSign, Pj_isType, Pj_isWord, Pj_take, Pj_variable]; try dsimp only
            try simp only [hR62.e2, hR62.e14, hR62.e15, hR62.e17, hR62.e18, hR62.e36, hR62.e42, hR62.e49, hR62.e62, hR62.a3, hR62.a6, hR62.a51, hR62.a19, hR62.a63, hR62.a64, hR62.hp]
            unfold Qj_declaration
            try dsimp only
            exact ⟨_, rfl, rfl, Or.inl rfl⟩
          · dsimp only [Option.toList, List.cons_append, List.nil_append, Nat.beq, gI_sI, gI_sL, gI_sA, gI_sM, gL_sI, gL_sL, gL_sA, gL_sM, aI_sI, aI_sL, aI_sA, aI_sM, aL_sI, aL_sL, aL_sA, aL_sM]
            have hR74 : Rj 1 τ74 τ74' := hr74 _ (by (repeat (first | exact hR62 | refine Rj.i ?_ rfl | refine Rj.a ?_ rfl | refine Rj.m ?_ | refine Rj.s ?_ (by decide) | refine Rj.o1 ?_ (by first | lia | (dsimp only [Nat.beq, gI_sI, gI_sL, gI_sA, gI_sM, gL_sI, gL_sL, gL_sA, gL_sM, aI_sI, aI_sL, aI_sA, aI_sM, aL_sI, aL_sL, aL_sA, aL_sM]; lia)) | refine Rj.o2 ?_ | refine Rj.f1 ?_ (by first | lia | (dsimp only [Nat.beq, gI_sI, gI_sL, gI_sA, gI_sM, gL_sI, gL_sL, gL_sA, gL_sM, aI_sI, aI_sL, aI_sA, aI_sM, aL_sI, aL_sL, aL_sA, aL_sM]; lia)) | refine Rj.f2 ?_ | refine Rj.fs ?_)))
            have ht74 := hk74.2 3 rfl
            have hc74 := hk74.1 2 rfl
            try dsimp only [Nat.beq, gI_sI, gI_sL, gI_sA, gI_sM, gL_sI, gL_sL, gL_sA, gL_sM, aI_sI, aI_sL, aI_sA, aI_sM, aL_sI, aL_sL, aL_sA, aL_sM] at hx74
            try dsimp only [Nat.beq, gI_sI, gI_sL, gI_sA, gI_sM, gL_sI, gL_sL, gL_sA, gL_sM, aI_sI, aI_sL, aI_sA, aI_sM, aL_sI, aL_sL, aL_sA, aL_sM] at ht74
            try dsimp only [Nat.beq, gI_sI, gI_sL, gI_sA, gI_sM, gL_sI, gL_sL, gL_sA, gL_sM, aI_sI, aI_sL, aI_sA, aI_sM, aL_sI, aL_sL, aL_sA, aL_sM] at hc74
            have hh74 := hk74.1 62 rfl
            have hg74 := hk74.1 49 rfl
            try dsimp only [Nat.beq, gI_sI, gI_sL, gI_sA, gI_sM, gL_sI, gL_sL, gL_sA, gL_sM, aI_sI, aI_sL, aI_sA, aI_sM, aL_sI, aL_sL, aL_sA, aL_sM] at hh74
            try dsimp only [Nat.beq, gI_sI, gI_sL, gI_sA, gI_sM, gL_sI, gL_sL, gL_sA, gL_sM, aI_sI, aI_sL, aI_sA, aI_sM, aL_sI, aL_sL, aL_sA, aL_sM] at hg74
            have hz74 := congrFun ht74 (gI τ74 14).toNatClampNeg
            try simp only [hR74.e2, hR74.e14, hR74.e15, hR74.e17, hR74.e18, hR74.e36, hR74.e42, hR74.e49, hR74.e62, hR74.a3, hR74.a6, hR74.a51, hR74.a19, hR74.a63, hR74.a64, hR74.hp]
            refine ⟨fun h77 => ⟨(by exact h77), ?_⟩, fun h77 => absurd h77 (by decide)⟩
            clear h77
            refine hB _ _ _ _ _ _ _ _ (fun m78 hm78 => ?_)
            dsimp only [jgo, jwp, jst, jct, rfd, Bdeclaration, Nat.beq, lv_args, rlk, rs1, rs2, rdl, rky, rcd, rno, rsw, Value.category, List.filter, List.take, List.drop, List.reverse, List.reverseAux, List.cons_append, List.nil_append, Option.toList, Int.toNat, Int.reduceToNat, if_pos, if_neg, reduceIte, ↓reduceIte, Nat.reduceAdd, Nat.reduceEqDiff, Nat.reduceBEq, beq_self_eq_true, Bool.not_true, Bool.not_false, Bool.and_true, Bool.and_false, Bool.true_and, Bool.false_and, gI_sI, gI_sL, gI_sA, gI_sM, gL_sI, gL_sL, gL_sA, gL_sM, aI_sI, aI_sL, aI_sA, aI_sM, aL_sI, aL_sL, aL_sA, aL_sM, Bdeclaration_0, Bdeclaration_11, Bdeclaration_18, Bdeclaration_20, Bdeclaration_31, Bdeclaration_36, Bdeclaration_53, Bdeclaration_55, Bdeclaration_68, Bdeclaration_73, Bdeclaration_95, Bdeclaration_97, Bdeclaration_110, Bdeclaration_114, Bdeclaration_119, Bdeclaration_124, Bdeclaration_147, Bdeclaration_154, Bdeclaration_156, Bdeclaration_179, Bdeclaration_183, Bdeclaration_184, oi_0, oi_1, oi_2, oi_21, oi_22, oi_61, Pu_cant, Pu_emit, Pj_expression, Pj_isSign, Pj_isType, Pj_isWord, Pj_take, Pj_variable]; try dsimp only
            try simp only [hR74.e2, hR74.e14, hR74.e15, hR74.e17, hR74.e18, hR74.e36, hR74.e42, hR74.e49, hR74.e62, hR74.a3, hR74.a6, hR74.a51, hR74.a19, hR74.a63, hR74.a64, hR74.hp]
            intro p79 q79
            try simp only [hR74.e2, hR74.e14, hR74.e15, hR74.e17, hR74.e18, hR74.e36, hR74.e42, hR74.e49, hR74.e62, hR74.a3, hR74.a6, hR74.a51, hR74.a19, hR74.a63, hR74.a64, hR74.hp]
            refine ⟨fun h80 => ⟨(by exact h80), ?_⟩, fun h80 => ⟨(by exact h80), ?_⟩⟩
            · refine hB _ _ _ _ _ _ _ _ (fun m81 hm81 => ?_)
              dsimp only [jgo, jwp, jst, jct, rfd, Bdeclaration, Nat.beq, lv_args, rlk, rs1, rs2, rdl, rky, rcd, rno, rsw, Value.category, List.filter, List.take, List.drop, List.reverse, List.reverseAux, List.cons_append, List.nil_append, Option.toList, Int.toNat, Int.reduceToNat, if_pos, if_neg, reduceIte, ↓reduceIte, Nat.reduceAdd, Nat.reduceEqDiff, Nat.reduceBEq, beq_self_eq_true, Bool.not_true, Bool.not_false, Bool.and_true, Bool.and_false, Bool.true_and, Bool.false_and, gI_sI, gI_sL, gI_sA, gI_sM, gL_sI, gL_sL, gL_sA, gL_sM, aI_sI, aI_sL, aI_sA, aI_sM, aL_sI, aL_sL, aL_sA, aL_sM, Bdeclaration_0, Bdeclaration_11, Bdeclaration_18, Bdeclaration_20, Bdeclaration_31, Bdeclaration_36, Bdeclaration_53, Bdeclaration_55, Bdeclaration_68, Bdeclaration_73, Bdeclaration_95, Bdeclaration_97, Bdeclaration_110, Bdeclaration_114, Bdeclaration_119, Bdeclaration_124, Bdeclaration_147, Bdeclaration_154, Bdeclaration_156, Bdeclaration_179, Bdeclaration_183, Bdeclaration_184, oi_0, oi_1, oi_2, oi_21, oi_22, oi_61, Pu_cant, Pu_emit, Pj_expression, Pj_isSign, Pj_isType, Pj_isWord, Pj_take, Pj_variable]; try dsimp only
              try simp only [hR74.e2, hR74.e14, hR74.e15, hR74.e17, hR74.e18, hR74.e36, hR74.e42, hR74.e49, hR74.e62, hR74.a3, hR74.a6, hR74.a51, hR74.a19, hR74.a63, hR74.a64, hR74.hp]
              refine ⟨⟨(by (repeat (first | exact hR74 | refine Rj.i ?_ rfl | refine Rj.a ?_ rfl | refine Rj.m ?_ | refine Rj.s ?_ (by decide) | refine Rj.o1 ?_ (by first | lia | (dsimp only [Nat.beq, gI_sI, gI_sL, gI_sA, gI_sM, gL_sI, gL_sL, gL_sA, gL_sM, aI_sI, aI_sL, aI_sA, aI_sM, aL_sI, aL_sL, aL_sA, aL_sM]; lia)) | refine Rj.o2 ?_ | refine Rj.f1 ?_ (by first | lia | (dsimp only [Nat.beq, gI_sI, gI_sL, gI_sA, gI_sM, gL_sI, gL_sL, gL_sA, gL_sM, aI_sI, aI_sL, aI_sA, aI_sM, aL_sI, aL_sL, aL_sA, aL_sM]; lia)) | refine Rj.f2 ?_ | refine Rj.fs ?_))), by lia⟩, fun w82 τ82 w82' τ82' hq82 => ?_⟩
              obtain ⟨b82, rfl, rfl, hb82⟩ := hq82
              rcases hb82 with rfl | ⟨rfl, hR82, hk82, hx82⟩
              · dsimp only [Option.toList, List.cons_append, List.nil_append, Nat.beq, gI_sI, gI_sL, gI_sA, gI_sM, gL_sI, gL_sL, gL_sA, gL_sM, aI_sI, aI_sL, aI_sA, aI_sM, aL_sI, aL_sL, aL_sA, aL_sM]
                try simp only [hR74.e2, hR74.e14, hR74.e15, hR74.e17, hR74.e18, hR74.e36, hR74.e42, hR74.e49, hR74.e62, hR74.a3, hR74.a6, hR74.a51, hR74.a19, hR74.a63, hR74.a64, hR74.hp]
                refine ⟨fun h83 => absurd h83 (by decide), fun h83 => ⟨(by exact h83), ?_⟩⟩
                clear h83
                refine hB _ _ _ _ _ _ _ _ (fun m84 hm84 => ?_)
                dsimp only [jgo, jwp, jst, jct, rfd, Bdeclaration, Nat.beq, lv_args, rlk, rs1, rs2, rdl, rky, rcd, rno, rsw, Value.category, List.filter, List.take, List.drop, List.reverse, List.reverseAux, List.cons_append, List.nil_append, Option.toList, Int.toNat, Int.reduceToNat, if_pos, if_neg, reduceIte, ↓reduceIte, Nat.reduceAdd, Nat.reduceEqDiff, Nat.reduceBEq, beq_self_eq_true, Bool.not_true, Bool.not_false, Bool.and_true, Bool.and_false, Bool.true_and, Bool.false_and, gI_sI, gI_sL, gI_sA, gI_sM, gL_sI, gL_sL, gL_sA, gL_sM, aI_sI, aI_sL, aI_sA, aI_sM, aL_sI, aL_sL, aL_sA, aL_sM, Bdeclaration_0, Bdeclaration_11, Bdeclaration_18, Bdeclaration_20, Bdeclaration_31, Bdeclaration_36, Bdeclaration_53, Bdeclaration_55, Bdeclaration_68, Bdeclaration_73, Bdeclaration_95, Bdeclaration_97, Bdeclaration_110, Bdeclaration_114, Bdeclaration_119, Bdeclaration_124, Bdeclaration_147, Bdeclaration_154, Bdeclaration_156, Bdeclaration_179, Bdeclaration_183, Bdeclaration_184, oi_0, oi_1, oi_2, oi_21, oi_22, oi_61, Pu_cant, Pu_emit, Pj_expression, Pj_isSign, Pj_isType, Pj_isWord, Pj_take, Pj_variable]; try dsimp only
                try simp only [hR74.e2, hR74.e14, hR74.e15, hR74.e17, hR74.e18, hR74.e36, hR74.e42, hR74.e49, hR74.e62, hR74.a3, hR74.a6, hR74.a51, hR74.a19, hR74.a63, hR74.a64, hR74.hp]
                unfold Qj_declaration
                try dsimp only
                exact ⟨_, rfl, rfl, Or.inl rfl⟩
              · dsimp only [Option.toList, List.cons_append, List.nil_append, Nat.beq, gI_sI, gI_sL, gI_sA, gI_sM, gL_sI, gL_sL, gL_sA, gL_sM, aI_sI, aI_sL, aI_sA, aI_sM, aL_sI, aL_sL, aL_sA, aL_sM]
                have ht82 := hk82.2 3 rfl
                have hc82 := hk82.1 2 rfl
                try dsimp only [Nat.beq, gI_sI, gI_sL, gI_sA, gI_sM, gL_sI, gL_sL, gL_sA, gL_sM, aI_sI, aI_sL, aI_sA, aI_sM, aL_sI, aL_sL, aL_sA, aL_sM] at hx82
                try dsimp only [Nat.beq, gI_sI, gI_sL, gI_sA, gI_sM, gL_sI, gL_sL, gL_sA, gL_sM, aI_sI, aI_sL, aI_sA, aI_sM, aL_sI, aL_sL, aL_sA, aL_sM] at ht82
                try dsimp only [Nat.beq, gI_sI, gI_sL, gI_sA, gI_sM, gL_sI, gL_sL, gL_sA, gL_sM, aI_sI, aI_sL, aI_sA, aI_sM, aL_sI, aL_sL, aL_sA, aL_sM] at hc82
                have hh82 := hk82.1 62 rfl
                have hg82 := hk82.1 49 rfl
                try dsimp only [Nat.beq, gI_sI, gI_sL, gI_sA, gI_sM, gL_sI, gL_sL, gL_sA, gL_sM, aI_sI, aI_sL, aI_sA, aI_sM, aL_sI, aL_sL, aL_sA, aL_sM] at hh82
                try dsimp only [Nat.beq, gI_sI, gI_sL, gI_sA, gI_sM, gL_sI, gL_sL, gL_sA, gL_sM, aI_sI, aI_sL, aI_sA, aI_sM, aL_sI, aL_sL, aL_sA, aL_sM] at hg82
                have hz82 := congrFun ht82 (gI τ82 14).toNatClampNeg
                try simp only [hR82.e2, hR82.e14, hR82.e15, hR82.e17, hR82.e18, hR82.e36, hR82.e42, hR82.e49, hR82.e62, hR82.a3, hR82.a6, hR82.a51, hR82.a19, hR82.a63, hR82.a64, hR82.hp]
                refine ⟨fun h85 => ⟨(by exact h85), ?_⟩, fun h85 => absurd h85 (by decide)⟩
                clear h85
                refine hB _ _ _ _ _ _ _ _ (fun m86 hm86 => ?_)
                dsimp only [jgo, jwp, jst, jct, rfd, Bdeclaration, Nat.beq, lv_args, rlk, rs1, rs2, rdl, rky, rcd, rno, rsw, Value.category, List.filter, List.take, List.drop, List.reverse, List.reverseAux, List.cons_append, List.nil_append, Option.toList, Int.toNat, Int.reduceToNat, if_pos, if_neg, reduceIte, ↓reduceIte, Nat.reduceAdd, Nat.reduceEqDiff, Nat.reduceBEq, beq_self_eq_true, Bool.not_true, Bool.not_false, Bool.and_true, Bool.and_false, Bool.true_and, Bool.false_and, gI_sI, gI_sL, gI_sA, gI_sM, gL_sI, gL_sL, gL_sA, gL_sM, aI_sI, aI_sL, aI_sA, aI_sM, aL_sI, aL_sL, aL_sA, aL_sM, Bdeclaration_0, Bdeclaration_11, Bdeclaration_18, Bdeclaration_20, Bdeclaration_31, Bdeclaration_36, Bdeclaration_53, Bdeclaration_55, Bdeclaration_68, Bdeclaration_73, Bdeclaration_95, Bdeclaration_97, Bdeclaration_110, Bdeclaration_114, Bdeclaration_119, Bdeclaration_124, Bdeclaration_147, Bdeclaration_154, Bdeclaration_156, Bdeclaration_179, Bdeclaration_183, Bdeclaration_184, oi_0, oi_1, oi_2, oi_21, oi_22, oi_61, Pu_cant, Pu_emit, Pj_expression, Pj_isSign, Pj_isType, Pj_isWord, Pj_take, Pj_variable]; try dsimp only
                try simp only [hR82.e2, hR82.e14, hR82.e15, hR82.e17, hR82.e18, hR82.e36, hR82.e42, hR82.e49, hR82.e62, hR82.a3, hR82.a6, hR82.a51, hR82.a19, hR82.a63, hR82.a64, hR82.hp]
                refine ⟨⟨(Rj.w (md := 1) (by (repeat (first | exact hR82 | refine Rj.i ?_ rfl | refine Rj.a ?_ rfl | refine Rj.m ?_ | refine Rj.s ?_ (by decide) | refine Rj.o1 ?_ (by first | lia | (dsimp only [Nat.beq, gI_sI, gI_sL, gI_sA, gI_sM, gL_sI, gL_sL, gL_sA, gL_sM, aI_sI, aI_sL, aI_sA, aI_sM, aL_sI, aL_sL, aL_sA, aL_sM]; lia)) | refine Rj.o2 ?_ | refine Rj.f1 ?_ (by first | lia | (dsimp only [Nat.beq, gI_sI, gI_sL, gI_sA, gI_sM, gL_sI, gL_sL, gL_sA, gL_sM, aI_sI, aI_sL, aI_sA, aI_sM, aL_sI, aL_sL, aL_sA, aL_sM]; lia)) | refine Rj.f2 ?_ | refine Rj.fs ?_)))), (by first | exact True.intro | rfl)⟩, fun w87 τ87 w87' τ87' hq87 => ?_⟩
                obtain ⟨b87, rfl, rfl, rfl, rfl, hb87⟩ := hq87
                rcases hb87 with rfl | ⟨rfl, hf87⟩
                · dsimp only [Option.toList, List.cons_append, List.nil_append, Nat.beq, gI_sI, gI_sL, gI_sA, gI_sM, gL_sI, gL_sL, gL_sA, gL_sM, aI_sI, aI_sL, aI_sA, aI_sM, aL_sI, aL_sL, aL_sA, aL_sM]
                  try simp only [hR82.e2, hR82.e14, hR82.e15, hR82.e17, hR82.e18, hR82.e36, hR82.e42, hR82.e49, hR82.e62, hR82.a3, hR82.a6, hR82.a51, hR82.a19, hR82.a63, hR82.a64, hR82.hp]
                  refine ⟨fun h88 => absurd h88 (by decide), fun h88 => ⟨(by exact h88), ?_⟩⟩
                  clear h88
                  refine hB _ _ _ _ _ _ _ _ (fun m89 hm89 => ?_)
                  dsimp only [jgo, jwp, jst, jct, rfd, Bdeclaration, Nat.beq, lv_args, rlk, rs1, rs2, rdl, rky, rcd, rno, rsw, Value.category, List.filter, List.take, List.drop, List.reverse, List.reverseAux, List.cons_append, List.nil_append, Option.toList, Int.toNat, Int.reduceToNat, if_pos, if_neg, reduceIte, ↓reduceIte, Nat.reduceAdd, Nat.reduceEqDiff, Nat.reduceBEq, beq_self_eq_true, Bool.not_true, Bool.not_false, Bool.and_true, Bool.and_false, Bool.true_and, Bool.false_and, gI_sI, gI_sL, gI_sA, gI_sM, gL_sI, gL_sL, gL_sA, gL_sM, aI_sI, aI_sL, aI_sA, aI_sM, aL_sI, aL_sL, aL_sA, aL_sM, Bdeclaration_0, Bdeclaration_11, Bdeclaration_18, Bdeclaration_20, Bdeclaration_31, Bdeclaration_36, Bdeclaration_53, Bdeclaration_55, Bdeclaration_68, Bdeclaration_73, Bdeclaration_95, Bdeclaration_97, Bdeclaration_110, Bdeclaration_114, Bdeclaration_119, Bdeclaration_124, Bdeclaration_147, Bdeclaration_154, Bdeclaration_156, Bdeclaration_179, Bdeclaration_183, Bdeclaration_184, oi_0, oi_1, oi_2, oi_21, oi_22, oi_61, Pu_cant, Pu_emit, Pj_expression, Pj_isSign, Pj_isType, Pj_isWord, Pj_take, Pj_variable]; try dsimp only
                  try simp only [hR82.e2, hR82.e14, hR82.e15, hR82.e17, hR82.e18, hR82.e36, hR82.e42, hR82.e49, hR82.e62, hR82.a3, hR82.a6, hR82.a51, hR82.a19, hR82.a63, hR82.a64, hR82.hp]
                  refine ⟨fun h90 => absurd h90 (by decide), fun h90 => ⟨(by exact h90), ?_⟩⟩
                  clear h90
                  refine hB _ _ _ _ _ _ _ _ (fun m91 hm91 => ?_)
                  dsimp only [jgo, jwp, jst, jct, rfd, Bdeclaration, Nat.beq, lv_args, rlk, rs1, rs2, rdl, rky, rcd, rno, rsw, Value.category, List.filter, List.take, List.drop, List.reverse, List.reverseAux, List.cons_append, List.nil_append, Option.toList, Int.toNat, Int.reduceToNat, if_pos, if_neg, reduceIte, ↓reduceIte, Nat.reduceAdd, Nat.reduceEqDiff, Nat.reduceBEq, beq_self_eq_true, Bool.not_true, Bool.not_false, Bool.and_true, Bool.and_false, Bool.true_and, Bool.false_and, gI_sI, gI_sL, gI_sA, gI_sM, gL_sI, gL_sL, gL_sA, gL_sM, aI_sI, aI_sL, aI_sA, aI_sM, aL_sI, aL_sL, aL_sA, aL_sM, Bdeclaration_0, Bdeclaration_11, Bdeclaration_18, Bdeclaration_20, Bdeclaration_31, Bdeclaration_36, Bdeclaration_53, Bdeclaration_55, Bdeclaration_68, Bdeclaration_73, Bdeclaration_95, Bdeclaration_97, Bdeclaration_110, Bdeclaration_114, Bdeclaration_119, Bdeclaration_124, Bdeclaration_147, Bdeclaration_154, Bdeclaration_156, Bdeclaration_179, Bdeclaration_183, Bdeclaration_184, oi_0, oi_1, oi_2, oi_21, oi_22, oi_61, Pu_cant, Pu_emit, Pj_expression, Pj_isSign, Pj_isType, Pj_isWord, Pj_take, Pj_variable]; try dsimp only
                  try simp only [hR82.e2, hR82.e14, hR82.e15, hR82.e17, hR82.e18, hR82.e36, hR82.e42, hR82.e49, hR82.e62, hR82.a3, hR82.a6, hR82.a51, hR82.a19, hR82.a63, hR82.a64, hR82.hp]
                  refine ⟨⟨trivial, trivial⟩, fun w92 τ92 w92' τ92' hq92 => ?_⟩
                  obtain ⟨rfl, rfl⟩ := hq92
                  dsimp only [Option.toList, List.cons_append, List.nil_append, Nat.beq, gI_sI, gI_sL, gI_sA, gI_sM, gL_sI, gL_sL, gL_sA, gL_sM, aI_sI, aI_sL, aI_sA, aI_sM, aL_sI, aL_sL, aL_sA, aL_sM]
                  try simp only [hR82.e2, hR82.e14, hR82.e15, hR82.e17, hR82.e18, hR82.e36, hR82.e42, hR82.e49, hR82.e62, hR82.a3, hR82.a6, hR82.a51, hR82.a19, hR82.a63, hR82.a64, hR82.hp]
                  unfold Qj_declaration
                  try dsimp only
                  exact ⟨_, rfl, rfl, Or.inl rfl⟩
                · dsimp only [Option.toList, List.cons_append, List.nil_append, Nat.beq, gI_sI, gI_sL, gI_sA, gI_sM, gL_sI, gL_sL, gL_sA, gL_sM, aI_sI, aI_sL, aI_sA, aI_sM, aL_sI, aL_sL, aL_sA, aL_sM]
                  try dsimp only [Nat.beq, gI_sI, gI_sL, gI_sA, gI_sM, gL_sI, gL_sL, gL_sA, gL_sM, aI_sI, aI_sL, aI_sA, aI_sM, aL_sI, aL_sL, aL_sA, aL_sM] at hf87
                  try simp only [hR82.e2, hR82.e14, hR82.e15, hR82.e17, hR82.e18, hR82.e36, hR82.e42, hR82.e49, hR82.e62, hR82.a3, hR82.a6, hR82.a51, hR82.a19, hR82.a63, hR82.a64, hR82.hp]
                  refine ⟨fun h93 => ⟨(by exact h93), ?_⟩, fun h93 => absurd h93 (by decide)⟩
                  clear h93
                  refine hB _ _ _ _ _ _ _ _ (fun m94 hm94 => ?_)
                  dsimp only [jgo, jwp, jst, jct, rfd, Bdeclaration, Nat.beq, lv_args, rlk, rs1, rs2, rdl, rky, rcd, rno, rsw, Value.category, List.filter, List.take, List.drop, List.reverse, List.reverseAux, List.cons_append, List.nil_append, Option.toList, Int.toNat, Int.reduceToNat, if_pos, if_neg, reduceIte, ↓reduceIte, Nat.reduceAdd, Nat.reduceEqDiff, Nat.reduceBEq, beq_self_eq_true, Bool.not_true, Bool.not_false, Bool.and_true, Bool.and_false, Bool.true_and, Bool.false_and, gI_sI, gI_sL, gI_sA, gI_sM, gL_sI, gL_sL, gL_sA, gL_sM, aI_sI, aI_sL, aI_sA, aI_sM, aL_sI, aL_sL, aL_sA, aL_sM, Bdeclaration_0, Bdeclaration_11, Bdeclaration_18, Bdeclaration_20, Bdeclaration_31, Bdeclaration_36, Bdeclaration_53, Bdeclaration_55, Bdeclaration_68, Bdeclaration_73, Bdeclaration_95, Bdeclaration_97, Bdeclaration_110, Bdeclaration_114, Bdeclaration_119, Bdeclaration_124, Bdeclaration_147, Bdeclaration_154, Bdeclaration_156, Bdeclaration_179, Bdeclaration_183, Bdeclaration_184, oi_0, oi_1, oi_2, oi_21, oi_22, oi_61, Pu_cant, Pu_emit, Pj_expression, Pj_isSign, Pj_isType, Pj_isWord, Pj_take, Pj_variable]; try dsimp only
                  try simp only [hR82.e2, hR82.e14, hR82.e15, hR82.e17, hR82.e18, hR82.e36, hR82.e42, hR82.e49, hR82.e62, hR82.a3, hR82.a6, hR82.a51, hR82.a19, hR82.a63, hR82.a64, hR82.hp]
                  refine ⟨fun h95 => absurd h95 (by decide), fun h95 => ⟨(by exact h95), ?_⟩⟩
                  clear h95
                  refine hB _ _ _ _ _ _ _ _ (fun m96 hm96 => ?_)
                  dsimp only [jgo, jwp, jst, jct, rfd, Bdeclaration, Nat.beq, lv_args, rlk, rs1, rs2, rdl, rky, rcd, rno, rsw, Value.category, List.filter, List.take, List.drop, List.reverse, List.reverseAux, List.cons_append, List.nil_append, Option.toList, Int.toNat, Int.reduceToNat, if_pos, if_neg, reduceIte, ↓reduceIte, Nat.reduceAdd, Nat.reduceEqDiff, Nat.reduceBEq, beq_self_eq_true, Bool.not_true, Bool.not_false, Bool.and_true, Bool.and_false, Bool.true_and, Bool.false_and, gI_sI, gI_sL, gI_sA, gI_sM, gL_sI, gL_sL, gL_sA, gL_sM, aI_sI, aI_sL, aI_sA, aI_sM, aL_sI, aL_sL, aL_sA, aL_sM, Bdeclaration_0, Bdeclaration_11, Bdeclaration_18, Bdeclaration_20, Bdeclaration_31, Bdeclaration_36, Bdeclaration_53, Bdeclaration_55, Bdeclaration_68, Bdeclaration_73, Bdeclaration_95, Bdeclaration_97, Bdeclaration_110, Bdeclaration_114, Bdeclaration_119, Bdeclaration_124, Bdeclaration_147, Bdeclaration_154, Bdeclaration_156, Bdeclaration_179, Bdeclaration_183, Bdeclaration_184, oi_0, oi_1, oi_2, oi_21, oi_22, oi_61, Pu_cant, Pu_emit, Pj_expression, Pj_isSign, Pj_isType, Pj_isWord, Pj_take, Pj_variable]; try dsimp only
                  try simp only [hR82.e2, hR82.e14, hR82.e15, hR82.e17, hR82.e18, hR82.e36, hR82.e42, hR82.e49, hR82.e62, hR82.a3, hR82.a6, hR82.a51, hR82.a19, hR82.a63, hR82.a64, hR82.hp]
                  refine ⟨⟨trivial, trivial⟩, fun w97 τ97 w97' τ97' hq97 => ?_⟩
                  obtain ⟨⟨rfl, hE97⟩, rfl, hF97⟩ := hq97
                  have hR97 : Rj 1 τ97 τ97' := Rj.em (by (repeat (first | exact hR82 | refine Rj.i ?_ rfl | refine Rj.a ?_ rfl | refine Rj.m ?_ | refine Rj.s ?_ (by decide) | refine Rj.o1 ?_ (by first | lia | (dsimp only [Nat.beq, gI_sI, gI_sL, gI_sA, gI_sM, gL_sI, gL_sL, gL_sA, gL_sM, aI_sI, aI_sL, aI_sA, aI_sM, aL_sI, aL_sL, aL_sA, aL_sM]; lia)) | refine Rj.o2 ?_ | refine Rj.f1 ?_ (by first | lia | (dsimp only [Nat.beq, gI_sI, gI_sL, gI_sA, gI_sM, gL_sI, gL_sL, gL_sA, gL_sM, aI_sI, aI_sL, aI_sA, aI_sM, aL_sI, aL_sL, aL_sA, aL_sM]; lia)) | refine Rj.f2 ?_ | refine Rj.fs ?_))) hE97 hF97 (by first | exact fun _ => rfl | exact fun q => absurd q (by decide))
                  have hp97 := hE97.1 14 (by decide)
                  have ho97 := hE97.1 29 (by decide)
                  have hh97 := hE97.1 62 (by decide)
                  have hg97 := hE97.1 49 (by decide)
                  have hw97 := hE97.1 34 (by decide)
                  have hv97 := hF97.1 34 (by decide)
                  have ht97 := hE97.2.2.2.2.1 3 (by decide)
                  try dsimp only [Nat.beq, gI_sI, gI_sL, gI_sA, gI_sM, gL_sI, gL_sL, gL_sA, gL_sM, aI_sI, aI_sL, aI_sA, aI_sM, aL_sI, aL_sL, aL_sA, aL_sM] at hp97
                  try dsimp only [Nat.beq, gI_sI, gI_sL, gI_sA, gI_sM, gL_sI, gL_sL, gL_sA, gL_sM, aI_sI, aI_sL, aI_sA, aI_sM, aL_sI, aL_sL, aL_sA, aL_sM] at ho97
                  try dsimp only [Nat.beq, gI_sI, gI_sL, gI_sA, gI_sM, gL_sI, gL_sL, gL_sA, gL_sM, aI_sI, aI_sL, aI_sA, aI_sM, aL_sI, aL_sL, aL_sA, aL_sM] at hh97
                  try dsimp only [Nat.beq, gI_sI, gI_sL, gI_sA, gI_sM, gL_sI, gL_sL, gL_sA, gL_sM, aI_sI, aI_sL, aI_sA, aI_sM, aL_sI, aL_sL, aL_sA, aL_sM] at hg97
                  try dsimp only [Nat.beq, gI_sI, gI_sL, gI_sA, gI_sM, gL_sI, gL_sL, gL_sA, gL_sM, aI_sI, aI_sL, aI_sA, aI_sM, aL_sI, aL_sL, aL_sA, aL_sM] at hw97
                  try dsimp only [Nat.beq, gI_sI, gI_sL, gI_sA, gI_sM, gL_sI, gL_sL, gL_sA, gL_sM, aI_sI, aI_sL, aI_sA, aI_sM, aL_sI, aL_sL, aL_sA, aL_sM] at hv97
                  try dsimp only [Nat.beq, gI_sI, gI_sL, gI_sA, gI_sM, gL_sI, gL_sL, gL_sA, gL_sM, aI_sI, aI_sL, aI_sA, aI_sM, aL_sI, aL_sL, aL_sA, aL_sM] at ht97
                  have hz97 := congrFun ht97 (gI τ97 14).toNatClampNeg
                  dsimp only [Option.toList, List.cons_append, List.nil_append, Nat.beq, gI_sI, gI_sL, gI_sA, gI_sM, gL_sI, gL_sL, gL_sA, gL_sM, aI_sI, aI_sL, aI_sA, aI_sM, aL_sI, aL_sL, aL_sA, aL_sM]
                  try simp only [hR97.e2, hR97.e14, hR97.e15, hR97.e17, hR97.e18, hR97.e36, hR97.e42, hR97.e49, hR97.e62, hR97.a3, hR97.a6, hR97.a51, hR97.a19, hR97.a63, hR97.a64, hR97.hp, hR82.e18]
                  intro p98 q98
                  try simp only [hR97.e2, hR97.e14, hR97.e15, hR97.e17, hR97.e18, hR97.e36, hR97.e42, hR97.e49, hR97.e62, hR97.a3, hR97.a6, hR97.a51, hR97.a19, hR97.a63, hR97.a64, hR97.hp, hR82.e18]
                  refine ⟨⟨(Rj.w (md := 1) (by (repeat (first | exact hR97 | refine Rj.i ?_ rfl | refine Rj.a ?_ rfl | refine Rj.m ?_ | refine Rj.s ?_ (by decide) | refine Rj.o1 ?_ (by first | lia | (dsimp only [Nat.beq, gI_sI, gI_sL, gI_sA, gI_sM, gL_sI, gL_sL, gL_sA, gL_sM, aI_sI, aI_sL, aI_sA, aI_sM, aL_sI, aL_sL, aL_sA, aL_sM]; lia)) | refine Rj.o2 ?_ | refine Rj.f1 ?_ (by first | lia | (dsimp only [Nat.beq, gI_sI, gI_sL, gI_sA, gI_sM, gL_sI, gL_sL, gL_sA, gL_sM, aI_sI, aI_sL, aI_sA, aI_sM, aL_sI, aL_sL, aL_sA, aL_sM]; lia)) | refine Rj.f2 ?_ | refine Rj.fs ?_)))), by lia, by lia⟩, fun w99 τ99 w99' τ99' hq99 => ?_⟩
                  obtain ⟨b99, rfl, rfl, hb99⟩ := hq99
                  rcases hb99 with rfl | ⟨rfl, hr99, hk99, hx99⟩
                  · dsimp only [Option.toList, List.cons_append, List.nil_append, Nat.beq, gI_sI, gI_sL, gI_sA, gI_sM, gL_sI, gL_sL, gL_sA, gL_sM, aI_sI, aI_sL, aI_sA, aI_sM, aL_sI, aL_sL, aL_sA, aL_sM]
                    try simp only [hR97.e2, hR97.e14, hR97.e15, hR97.e17, hR97.e18, hR97.e36, hR97.e42, hR97.e49, hR97.e62, hR97.a3, hR97.a6, hR97.a51, hR97.a19, hR97.a63, hR97.a64, hR97.hp, hR82.e18]
                    refine ⟨fun h100 => ⟨(by exact h100), ?_⟩, fun h100 => absurd h100 (by decide)⟩
                    clear h100
                    refine hB _ _ _ _ _ _ _ _ (fun m101 hm101 => ?_)
                    dsimp only [jgo, jwp, jst, jct, rfd, Bdeclaration, Nat.beq, lv_args, rlk, rs1, rs2, rdl, rky, rcd, rno, rsw, Value.category, List.filter, List.take, List.drop, List.reverse, List.reverseAux, List.cons_append, List.nil_append, Option.toList, Int.toNat, Int.reduceToNat, if_pos, if_neg, reduceIte, ↓reduceIte, Nat.reduceAdd, Nat.reduceEqDiff, Nat.reduceBEq, beq_self_eq_true, Bool.not_true, Bool.not_false, Bool.and_true, Bool.and_false, Bool.true_and, Bool.false_and, gI_sI, gI_sL, gI_sA, gI_sM, gL_sI, gL_sL, gL_sA, gL_sM, aI_sI, aI_sL, aI_sA, aI_sM, aL_sI, aL_sL, aL_sA, aL_sM, Bdeclaration_0, Bdeclaration_11, Bdeclaration_18, Bdeclaration_20, Bdeclaration_31, Bdeclaration_36, Bdeclaration_53, Bdeclaration_55, Bdeclaration_68, Bdeclaration_73, Bdeclaration_95, Bdeclaration_97, Bdeclaration_110, Bdeclaration_114, Bdeclaration_119, Bdeclaration_124, Bdeclaration_147, Bdeclaration_154, Bdeclaration_156, Bdeclaration_179, Bdeclaration_183, Bdeclaration_184, oi_0, oi_1, oi_2, oi_21, oi_22, oi_61, Pu_cant, Pu_emit, Pj_expression, Pj_isSign, Pj_isType, Pj_isWord, Pj_take, Pj_variable]; try dsimp only
                    try simp only [hR97.e2, hR97.e14, hR97.e15, hR97.e17, hR97.e18, hR97.e36, hR97.e42, hR97.e49, hR97.e62, hR97.a3, hR97.a6, hR97.a51, hR97.a19, hR97.a63, hR97.a64, hR97.hp, hR82.e18]
                    unfold Qj_declaration
                    try dsimp only
                    exact ⟨_, rfl, rfl, Or.inl rfl⟩
                  · dsimp only [Option.toList, List.cons_append, List.nil_append, Nat.beq, gI_sI, gI_sL, gI_sA, gI_sM, gL_sI, gL_sL, gL_sA, gL_sM, aI_sI, aI_sL, aI_sA, aI_sM, aL_sI, aL_sL, aL_sA, aL_sM]
                    have hR99 : Rj 1 τ99 τ99' := hr99 _ (by (repeat (first | exact hR97 | refine Rj.i ?_ rfl | refine Rj.a ?_ rfl | refine Rj.m ?_ | refine Rj.s ?_ (by decide) | refine Rj.o1 ?_ (by first | lia | (dsimp only [Nat.beq, gI_sI, gI_sL, gI_sA, gI_sM, gL_sI, gL_sL, gL_sA, gL_sM, aI_sI, aI_sL, aI_sA, aI_sM, aL_sI, aL_sL, aL_sA, aL_sM]; lia)) | refine Rj.o2 ?_ | refine Rj.f1 ?_ (by first | lia | (dsimp only [Nat.beq, gI_sI, gI_sL, gI_sA, gI_sM, gL_sI, gL_sL, gL_sA, gL_sM, aI_sI, aI_sL, aI_sA, aI_sM, aL_sI, aL_sL, aL_sA, aL_sM]; lia)) | refine Rj.f2 ?_ | refine Rj.fs ?_)))
                    have ht99 := hk99.2 3 rfl
                    have hc99 := hk99.1 2 rfl
                    try dsimp only [Nat.beq, gI_sI, gI_sL, gI_sA, gI_sM, gL_sI, gL_sL, gL_sA, gL_sM, aI_sI, aI_sL, aI_sA, aI_sM, aL_sI, aL_sL, aL_sA, aL_sM] at hx99
                    try dsimp only [Nat.beq, gI_sI, gI_sL, gI_sA, gI_sM, gL_sI, gL_sL, gL_sA, gL_sM, aI_sI, aI_sL, aI_sA, aI_sM, aL_sI, aL_sL, aL_sA, aL_sM] at ht99
                    try dsimp only [Nat.beq, gI_sI, gI_sL, gI_sA, gI_sM, gL_sI, gL_sL, gL_sA, gL_sM, aI_sI, aI_sL, aI_sA, aI_sM, aL_sI, aL_sL, aL_sA, aL_sM] at hc99
                    have hh99 := hk99.1 62 rfl
                    have hg99 := hk99.1 49 rfl
                    try dsimp only [Nat.beq, gI_sI, gI_sL, gI_sA, gI_sM, gL_sI, gL_sL, gL_sA, gL_sM, aI_sI, aI_sL, aI_sA, aI_sM, aL_sI, aL_sL, aL_sA, aL_sM] at hh99
                    try dsimp only [Nat.beq, gI_sI, gI_sL, gI_sA, gI_sM, gL_sI, gL_sL, gL_sA, gL_sM, aI_sI, aI_sL, aI_sA, aI_sM, aL_sI, aL_sL, aL_sA, aL_sM] at hg99
                    have hz99 := congrFun ht99 (gI τ99 14).toNatClampNeg
                    try simp only [hR99.e2, hR99.e14, hR99.e15, hR99.e17, hR99.e18, hR99.e36, hR99.e42, hR99.e49, hR99.e62, hR99.a3, hR99.a6, hR99.a51, hR99.a19, hR99.a63, hR99.a64, hR99.hp, hR82.e18]
                    refine ⟨fun h102 => absurd h102 (by decide), fun h102 => ⟨(by exact h102), ?_⟩⟩
                    clear h102
                    refine hB _ _ _ _ _ _ _ _ (fun m103 hm103 => ?_)
                    dsimp only [jgo, jwp, jst, jct, rfd, Bdeclaration, Nat.beq, lv_args, rlk, rs1, rs2, rdl, rky, rcd, rno, rsw, Value.category, List.filter, List.take, List.drop, List.reverse, List.reverseAux, List.cons_append, List.nil_append, Option.toList, Int.toNat, Int.reduceToNat, if_pos, if_neg, reduceIte, ↓reduceIte, Nat.reduceAdd, Nat.reduceEqDiff, Nat.reduceBEq, beq_self_eq_true, Bool.not_true, Bool.not_false, Bool.and_true, Bool.and_false, Bool.true_and, Bool.false_and, gI_sI, gI_sL, gI_sA, gI_sM, gL_sI, gL_sL, gL_sA, gL_sM, aI_sI, aI_sL, aI_sA, aI_sM, aL_sI, aL_sL, aL_sA, aL_sM, Bdeclaration_0, Bdeclaration_11, Bdeclaration_18, Bdeclaration_20, Bdeclaration_31, Bdeclaration_36, Bdeclaration_53, Bdeclaration_55, Bdeclaration_68, Bdeclaration_73, Bdeclaration_95, Bdeclaration_97, Bdeclaration_110, Bdeclaration_114, Bdeclaration_119, Bdeclaration_124, Bdeclaration_147, Bdeclaration_154, Bdeclaration_156, Bdeclaration_179, Bdeclaration_183, Bdeclaration_184, oi_0, oi_1, oi_2, oi_21, oi_22, oi_61, Pu_cant, Pu_emit, Pj_expression, Pj_isSign, Pj_isType, Pj_isWord, Pj_take, Pj_variable]; try dsimp only
                    try simp only [hR99.e2, hR99.e14, hR99.e15, hR99.e17, hR99.e18, hR99.e36, hR99.e42, hR99.e49, hR99.e62, hR99.a3, hR99.a6, hR99.a51, hR99.a19, hR99.a63, hR99.a64, hR99.hp, hR82.e18]
                    refine ⟨(by (repeat (first | exact hR99 | refine Rj.i ?_ rfl | refine Rj.a ?_ rfl | refine Rj.m ?_ | refine Rj.s ?_ (by decide) | refine Rj.o1 ?_ (by first | lia | (dsimp only [Nat.beq, gI_sI, gI_sL, gI_sA, gI_sM, gL_sI, gL_sL, gL_sA, gL_sM, aI_sI, aI_sL, aI_sA, aI_sM, aL_sI, aL_sL, aL_sA, aL_sM]; lia)) | refine Rj.o2 ?_ | refine Rj.f1 ?_ (by first | lia | (dsimp only [Nat.beq, gI_sI, gI_sL, gI_sA, gI_sM, gL_sI, gL_sL, gL_sA, gL_sM, aI_sI, aI_sL, aI_sA, aI_sM, aL_sI, aL_sL, aL_sA, aL_sM]; lia)) | refine Rj.f2 ?_ | refine Rj.fs ?_))), fun w104 τ104 w104' τ104' hq104 => ?_⟩
                    obtain ⟨b104, rfl, rfl, hb104⟩ := hq104
                    rcases hb104 with rfl | ⟨rfl, hR104, hk104⟩
                    · dsimp only [Option.toList, List.cons_append, List.nil_append, Nat.beq, gI_sI, gI_sL, gI_sA, gI_sM, gL_sI, gL_sL, gL_sA, gL_sM, aI_sI, aI_sL, aI_sA, aI_sM, aL_sI, aL_sL, aL_sA, aL_sM]
                      try simp only [hR99.e2, hR99.e14, hR99.e15, hR99.e17, hR99.e18, hR99.e36, hR99.e42, hR99.e49, hR99.e62, hR99.a3, hR99.a6, hR99.a51, hR99.a19, hR99.a63, hR99.a64, hR99.hp, hR82.e18]
                      refine ⟨fun h105 => absurd h105 (by decide), fun h105 => ⟨(by exact h105), ?_⟩⟩
                      clear h105
                      refine hB _ _ _ _ _ _ _ _ (fun m106 hm106 => ?_)
                      dsimp only [jgo, jwp, jst, jct, rfd, Bdeclaration, Nat.beq, lv_args, rlk, rs1, rs2, rdl, rky, rcd, rno, rsw, Value.category, List.filter, List.take, List.drop, List.reverse, List.reverseAux, List.cons_append, List.nil_append, Option.toList, Int.toNat, Int.reduceToNat, if_pos, if_neg, reduceIte, ↓reduceIte, Nat.reduceAdd, Nat.reduceEqDiff, Nat.reduceBEq, beq_self_eq_true, Bool.not_true, Bool.not_false, Bool.and_true, Bool.and_false, Bool.true_and, Bool.false_and, gI_sI, gI_sL, gI_sA, gI_sM, gL_sI, gL_sL, gL_sA, gL_sM, aI_sI, aI_sL, aI_sA, aI_sM, aL_sI, aL_sL, aL_sA, aL_sM, Bdeclaration_0, Bdeclaration_11, Bdeclaration_18, Bdeclaration_20, Bdeclaration_31, Bdeclaration_36, Bdeclaration_53, Bdeclaration_55, Bdeclaration_68, Bdeclaration_73, Bdeclaration_95, Bdeclaration_97, Bdeclaration_110, Bdeclaration_114, Bdeclaration_119, Bdeclaration_124, Bdeclaration_147, Bdeclaration_154, Bdeclaration_156, Bdeclaration_179, Bdeclaration_183, Bdeclaration_184, oi_0, oi_1, oi_2, oi_21, oi_22, oi_61, Pu_cant, Pu_emit, Pj_expression, Pj_isSign, Pj_isType, Pj_isWord, Pj_take, Pj_variable]; try dsimp only
                      try simp only [hR99.e2, hR99.e14, hR99.e15, hR99.e17, hR99.e18, hR99.e36, hR99.e42, hR99.e49, hR99.e62, hR99.a3, hR99.a6, hR99.a51, hR99.a19, hR99.a63, hR99.a64, hR99.hp, hR82.e18]
                      unfold Qj_declaration
                      try dsimp only
                      exact ⟨_, rfl, rfl, Or.inl rfl⟩
                    · dsimp only [Option.toList, List.cons_append, List.nil_append, Nat.beq, gI_sI, gI_sL, gI_sA, gI_sM, gL_sI, gL_sL, gL_sA, gL_sM, aI_sI, aI_sL, aI_sA, aI_sM, aL_sI, aL_sL, aL_sA, aL_sM]
                      have hh104 := hk104.1 62 rfl
                      have hg104 := hk104.1 49 rfl
                      try dsimp only [Nat.beq, gI_sI, gI_sL, gI_sA, gI_sM, gL_sI, gL_sL, gL_sA, gL_sM, aI_sI, aI_sL, aI_sA, aI_sM, aL_sI, aL_sL, aL_sA, aL_sM] at hh104
                      try dsimp only [Nat.beq, gI_sI, gI_sL, gI_sA, gI_sM, gL_sI, gL_sL, gL_sA, gL_sM, aI_sI, aI_sL, aI_sA, aI_sM, aL_sI, aL_sL, aL_sA, aL_sM] at hg104
                      try simp only [hR104.e2, hR104.e14, hR104.e15, hR104.e17, hR104.e18, hR104.e36, hR104.e42, hR104.e49, hR104.e62, hR104.a3, hR104.a6, hR104.a51, hR104.a19, hR104.a63, hR104.a64, hR104.hp, hR82.e18]
                      refine ⟨fun h107 => ⟨(by exact h107), ?_⟩, fun h107 => absurd h107 (by decide)⟩
                      clear h107
                      refine hB _ _ _ _ _ _ _ _ (fun m108 hm108 => ?_)
                      dsimp only [jgo, jwp, jst, jct, rfd, Bdeclaration, Nat.beq, lv_args, rlk, rs1, rs2, rdl, rky, rcd, rno, rsw, Value.category, List.filter, List.take, List.drop, List.reverse, List.reverseAux, List.cons_append, List.nil_append, Option.toList, Int.toNat, Int.reduceToNat, if_pos, if_neg, reduceIte, ↓reduceIte, Nat.reduceAdd, Nat.reduceEqDiff, Nat.reduceBEq, beq_self_eq_true, Bool.not_true, Bool.not_false, Bool.and_true, Bool.and_false, Bool.true_and, Bool.false_and, gI_sI, gI_sL, gI_sA, gI_sM, gL_sI, gL_sL, gL_sA, gL_sM, aI_sI, aI_sL, aI_sA, aI_sM, aL_sI, aL_sL, aL_sA, aL_sM, Bdeclaration_0, Bdeclaration_11, Bdeclaration_18, Bdeclaration_20, Bdeclaration_31, Bdeclaration_36, Bdeclaration_53, Bdeclaration_55, Bdeclaration_68, Bdeclaration_73, Bdeclaration_95, Bdeclaration_97, Bdeclaration_110, Bdeclaration_114, Bdeclaration_119, Bdeclaration_124, Bdeclaration_147, Bdeclaration_154, Bdeclaration_156, Bdeclaration_179, Bdeclaration_183, Bdeclaration_184, oi_0, oi_1, oi_2, oi_21, oi_22, oi_61, Pu_cant, Pu_emit, Pj_expression, Pj_isSign, Pj_isType, Pj_isWord, Pj_take, Pj_variable]; try dsimp only
                      try simp only [hR104.e2, hR104.e14, hR104.e15, hR104.e17, hR104.e18, hR104.e36, hR104.e42, hR104.e49, hR104.e62, hR104.a3, hR104.a6, hR104.a51, hR104.a19, hR104.a63, hR104.a64, hR104.hp, hR82.e18]
                      refine ⟨⟨trivial, trivial⟩, fun w109 τ109 w109' τ109' hq109 => ?_⟩
                      obtain ⟨⟨rfl, hE109⟩, rfl, hF109⟩ := hq109
                      have hR109 : Rj 1 τ109 τ109' := Rj.em (by (repeat (first | exact hR104 | refine Rj.i ?_ rfl | refine Rj.a ?_ rfl | refine Rj.m ?_ | refine Rj.s ?_ (by decide) | refine Rj.o1 ?_ (by first | lia | (dsimp only [Nat.beq, gI_sI, gI_sL, gI_sA, gI_sM, gL_sI, gL_sL, gL_sA, gL_sM, aI_sI, aI_sL, aI_sA, aI_sM, aL_sI, aL_sL, aL_sA, aL_sM]; lia)) | refine Rj.o2 ?_ | refine Rj.f1 ?_ (by first | lia | (dsimp only [Nat.beq, gI_sI, gI_sL, gI_sA, gI_sM, gL_sI, gL_sL, gL_sA, gL_sM, aI_sI, aI_sL, aI_sA, aI_sM, aL_sI, aL_sL, aL_sA, aL_sM]; lia)) | refine Rj.f2 ?_ | refine Rj.fs ?_))) hE109 hF109 (by first | exact fun _ => rfl | exact fun q => absurd q (by decide))
                      have hp109 := hE109.1 14 (by decide)
                      have ho109 := hE109.1 29 (by decide)
                      have hh109 := hE109.1 62 (by decide)
                      have hg109 := hE109.1 49 (by decide)
                      have hw109 := hE109.1 34 (by decide)
                      have hv109 := hF109.1 34 (by decide)
                      have ht109 := hE109.2.2.2.2.1 3 (by decide)
                      try dsimp only [Nat.beq, gI_sI, gI_sL, gI_sA, gI_sM, gL_sI, gL_sL, gL_sA, gL_sM, aI_sI, aI_sL, aI_sA, aI_sM, aL_sI, aL_sL, aL_sA, aL_sM] at hp109
                      try dsimp only [Nat.beq, gI_sI, gI_sL, gI_sA, gI_sM, gL_sI, gL_sL, gL_sA, gL_sM, aI_sI, aI_sL, aI_sA, aI_sM, aL_sI, aL_sL, aL_sA, aL_sM] at ho109
                      try dsimp only [Nat.beq, gI_sI, gI_sL, gI_sA, gI_sM, gL_sI, gL_sL, gL_sA, gL_sM, aI_sI, aI_sL, aI_sA, aI_sM, aL_sI, aL_sL, aL_sA, aL_sM] at hh109
                      try dsimp only [Nat.beq, gI_sI, gI_sL, gI_sA, gI_sM, gL_sI, gL_sL, gL_sA, gL_sM, aI_sI, aI_sL, aI_sA, aI_sM, aL_sI, aL_sL, aL_sA, aL_sM] at hg109
                      try dsimp only [Nat.beq, gI_sI, gI_sL, gI_sA, gI_sM, gL_sI, gL_sL, gL_sA, gL_sM, aI_sI, aI_sL, aI_sA, aI_sM, aL_sI, aL_sL, aL_sA, aL_sM] at hw109
                      try dsimp only [Nat.beq, gI_sI, gI_sL, gI_sA, gI_sM, gL_sI, gL_sL, gL_sA, gL_sM, aI_sI, aI_sL, aI_sA, aI_sM, aL_sI, aL_sL, aL_sA, aL_sM] at hv109
                      try dsimp only [Nat.beq, gI_sI, gI_sL, gI_sA, gI_sM, gL_sI, gL_sL, gL_sA, gL_sM, aI_sI, aI_sL, aI_sA, aI_sM, aL_sI, aL_sL, aL_sA, aL_sM] at ht109
                      have hz109 := congrFun ht109 (gI τ109 14).toNatClampNeg
                      dsimp only [Option.toList, List.cons_append, List.nil_append, Nat.beq, gI_sI, gI_sL, gI_sA, gI_sM, gL_sI, gL_sL, gL_sA, gL_sM, aI_sI, aI_sL, aI_sA, aI_sM, aL_sI, aL_sL, aL_sA, aL_sM]
                      try simp only [hR109.e2, hR109.e14, hR109.e15, hR109.e17, hR109.e18, hR109.e36, hR109.e42, hR109.e49, hR109.e62, hR109.a3, hR109.a6, hR109.a51, hR109.a19, hR109.a63, hR109.a64, hR109.hp, hR82.e18, hR104.e18]
                      refine ⟨fun h110 => absurd h110 (by decide), fun h110 => ⟨(by exact h110), ?_⟩⟩
                      clear h110
                      refine hB _ _ _ _ _ _ _ _ (fun m111 hm111 => ?_)
                      dsimp only [jgo, jwp, jst, jct, rfd, Bdeclaration, Nat.beq, lv_args, rlk, rs1, rs2, rdl, rky, rcd, rno, rsw, Value.category, List.filter, List.take, List.drop, List.reverse, List.reverseAux, List.cons_append, List.nil_append, Option.toList, Int.toNat, Int.reduceToNat, if_pos, if_neg, reduceIte, ↓reduceIte, Nat.reduceAdd, Nat.reduceEqDiff, Nat.reduceBEq, beq_self_eq_true, Bool.not_true, Bool.not_false, Bool.and_true, Bool.and_false, Bool.true_and, Bool.false_and, gI_sI, gI_sL, gI_sA, gI_sM, gL_sI, gL_sL, gL_sA, gL_sM, aI_sI, aI_sL, aI_sA, aI_sM, aL_sI, aL_sL, aL_sA, aL_sM, Bdeclaration_0, Bdeclaration_11, Bdeclaration_18, Bdeclaration_20, Bdeclaration_31, Bdeclaration_36, Bdeclaration_53, Bdeclaration_55, Bdeclaration_68, Bdeclaration_73, Bdeclaration_95, Bdeclaration_97, Bdeclaration_110, Bdeclaration_114, Bdeclaration_119, Bdeclaration_124, Bdeclaration_147, Bdeclaration_154, Bdeclaration_156, Bdeclaration_179, Bdeclaration_183, Bdeclaration_184, oi_0, oi_1, oi_2, oi_21, oi_22, oi_61, Pu_cant, Pu_emit, Pj_expression, Pj_isSign, Pj_isType, Pj_isWord, Pj_take, Pj_variable]; try dsimp only
                      try simp only [hR109.e2, hR109.e14, hR109.e15, hR109.e17, hR109.e18, hR109.e36, hR109.e42, hR109.e49, hR109.e62, hR109.a3, hR109.a6, hR109.a51, hR109.a19, hR109.a63, hR109.a64, hR109.hp, hR82.e18, hR104.e18]
                      refine hB _ _ _ _ _ _ _ _ (fun m112 hm112 => ?_)
                      dsimp only [jgo, jwp, jst, jct, rfd, Bdeclaration, Nat.beq, lv_args, rlk, rs1, rs2, rdl, rky, rcd, rno, rsw, Value.category, List.filter, List.take, List.drop, List.reverse, List.reverseAux, List.cons_append, List.nil_append, Option.toList, Int.toNat, Int.reduceToNat, if_pos, if_neg, reduceIte, ↓reduceIte, Nat.reduceAdd, Nat.reduceEqDiff, Nat.reduceBEq, beq_self_eq_true, Bool.not_true, Bool.not_false, Bool.and_true, Bool.and_false, Bool.true_and, Bool.false_and, gI_sI, gI_sL, gI_sA, gI_sM, gL_sI, gL_sL, gL_sA, gL_sM, aI_sI, aI_sL, aI_sA, aI_sM, aL_sI, aL_sL, aL_sA, aL_sM, Bdeclaration_0, Bdeclaration_11, Bdeclaration_18, Bdeclaration_20, Bdeclaration_31, Bdeclaration_36, Bdeclaration_53, Bdeclaration_55, Bdeclaration_68, Bdeclaration_73, Bdeclaration_95, Bdeclaration_97, Bdeclaration_110, Bdeclaration_114, Bdeclaration_119, Bdeclaration_124, Bdeclaration_147, Bdeclaration_154, Bdeclaration_156, Bdeclaration_179, Bdeclaration_183, Bdeclaration_184, oi_0, oi_1, oi_2, oi_21, oi_22, oi_61, Pu_cant, Pu_emit, Pj_expression, Pj_isSign, Pj_isType, Pj_isWord, Pj_take, Pj_variable]; try dsimp only
                      try simp only [hR109.e2, hR109.e14, hR109.e15, hR109.e17, hR109.e18, hR109.e36, hR109.e42, hR109.e49, hR109.e62, hR109.a3, hR109.a6, hR109.a51, hR109.a19, hR109.a63, hR109.a64, hR109.hp, hR82.e18, hR104.e18]
                      intro p113 q113
                      try simp only [hR109.e2, hR109.e14, hR109.e15, hR109.e17, hR109.e18, hR109.e36, hR109.e42, hR109.e49, hR109.e62, hR109.a3, hR109.a6, hR109.a51, hR109.a19, hR109.a63, hR109.a64, hR109.hp, hR82.e18, hR104.e18]
                      unfold Qj_declaration
                      try dsimp only
                      exact ⟨_, rfl, rfl, Or.inr ⟨rfl, by (repeat (first | exact hR109 | refine Rj.i ?_ rfl | refine Rj.a ?_ rfl | refine Rj.m ?_ | refine Rj.s ?_ (by decide) | refine Rj.o1 ?_ (by first | lia | (dsimp only [Nat.beq, gI_sI, gI_sL, gI_sA, gI_sM, gL_sI, gL_sL, gL_sA, gL_sM, aI_sI, aI_sL, aI_sA, aI_sM, aL_sI, aL_sL, aL_sA, aL_sM]; lia)) | refine Rj.o2 ?_ | refine Rj.f1 ?_ (by first | lia | (dsimp only [Nat.beq, gI_sI, gI_sL, gI_sA, gI_sM, gL_sI, gL_sL, gL_sA, gL_sM, aI_sI, aI_sL, aI_sA, aI_sM, aL_sI, aL_sL, aL_sA, aL_sM]; lia)) | refine Rj.f2 ?_ | refine Rj.fs ?_)), by (repeat (first | exact Kx.rf | refine Kx.i ?_ rfl | refine Kx.a ?_ rfl | refine Kx.m ?_ | refine Kx.tr ?_ hE109.kx | refine Kx.tr ?_ hk104 | refine Kx.tr ?_ hk99 | refine Kx.tr ?_ hE97.kx | refine Kx.tr ?_ hk82 | refine Kx.tr ?_ hk74 | refine Kx.tr ?_ hk62))⟩⟩
            · refine hB _ _ _ _ _ _ _ _ (fun m114 hm114 => ?_)
              dsimp only [jgo, jwp, jst, jct, rfd, Bdeclaration, Nat.beq, lv_args, rlk, rs1, rs2, rdl, rky, rcd, rno, rsw, Value.category, List.filter, List.take, List.drop, List.reverse, List.reverseAux, List.cons_append, List.nil_append, Option.toList, Int.toNat, Int.reduceToNat, if_pos, if_neg, reduceIte, ↓reduceIte, Nat.reduceAdd, Nat.reduceEqDiff, Nat.reduceBEq, beq_self_eq_true, Bool.not_true, Bool.not_false, Bool.and_true, Bool.and_false, Bool.true_and, Bool.false_and, gI_sI, gI_sL, gI_sA, gI_sM, gL_sI, gL_sL, gL_sA, gL_sM, aI_sI, aI_sL, aI_sA, aI_sM, aL_sI, aL_sL, aL_sA, aL_sM, Bdeclaration_0, Bdeclaration_11, Bdeclaration_18, Bdeclaration_20, Bdeclaration_31, Bdeclaration_36, Bdeclaration_53, Bdeclaration_55, Bdeclaration_68, Bdeclaration_73, Bdeclaration_95, Bdeclaration_97, Bdeclaration_110, Bdeclaration_114, Bdeclaration_119, Bdeclaration_124, Bdeclaration_147, Bdeclaration_154, Bdeclaration_156, Bdeclaration_179, Bdeclaration_183, Bdeclaration_184, oi_0, oi_1, oi_2, oi_21, oi_22, oi_61, Pu_cant, Pu_emit, Pj_expression, Pj_isSign, Pj_isType, Pj_isWord, Pj_take, Pj_variable]; try dsimp only
              try simp only [hR74.e2, hR74.e14, hR74.e15, hR74.e17, hR74.e18, hR74.e36, hR74.e42, hR74.e49, hR74.e62, hR74.a3, hR74.a6, hR74.a51, hR74.a19, hR74.a63, hR74.a64, hR74.hp]
              refine ⟨⟨trivial, trivial⟩, fun w115 τ115 w115' τ115' hq115 => ?_⟩
              obtain ⟨rfl, rfl⟩ := hq115
              dsimp only [Option.toList, List.cons_append, List.nil_append, Nat.beq, gI_sI, gI_sL, gI_sA, gI_sM, gL_sI, gL_sL, gL_sA, gL_sM, aI_sI, aI_sL, aI_sA, aI_sM, aL_sI, aL_sL, aL_sA, aL_sM]
              try simp only [hR74.e2, hR74.e14, hR74.e15, hR74.e17, hR74.e18, hR74.e36, hR74.e42, hR74.e49, hR74.e62, hR74.a3, hR74.a6, hR74.a51, hR74.a19, hR74.a63, hR74.a64, hR74.hp]
              unfold Qj_declaration
              try dsimp only
              exact ⟨_, rfl, rfl, Or.inl rfl⟩
  next => exact hP.elim
def Pj_told : JPr := fun A1 A2 σ ρ => match A1, A2 with
  | [], [] => Rj 1 σ ρ
  | _, _ => False
def Qj_told : JQr := fun A1 A2 σ ρ w τ w' τ' => match A1, A2 with
  | [], [] => ∃ b : Int32, w = some (.int b) ∧ w' = some (.int b) ∧ (b = 0 ∨ (b = 1 ∧ Rj 1 τ τ' ∧ Kx σ τ))
  | _, _ => False
set_option maxRecDepth 100000 in
set_option maxHeartbeats 4000000 in
theorem j_told : JMet 47 Pj_told Qj_told := by
  refine JMet.by Btold [(48, Pj_declaration, Qj_declaration), (20, (fun A1 A2 σ ρ => Pu_emit A1 σ ∧ Pu_emit A2 ρ), (fun A1 A2 σ ρ w τ w' τ' => Qu_emit A1 σ w τ ∧ Qu_emit A2 ρ w' τ')), (41, (fun A1 A2 σ ρ => Pu_scope A1 σ ∧ Pu_scope A2 ρ), (fun A1 A2 σ ρ w τ w' τ' => Qu_scope A1 σ w τ ∧ Qu_scope A2 ρ w' τ')), (18, Pj_want, Qj_want)] rfl (jcc j_declaration (jcc (JMet.u u_emit) (jcc (JMet.u u_scope) (jcc j_want jc0)))) ?_
  intro A1 A2 σ ρ hP K hB hW
  unfold Pj_told at hP
  split at hP
  next =>
    have hR := hP
    intro n0
    refine hB _ _ _ _ _ _ _ _ (fun m1 hm1 => ?_)
    dsimp only [jgo, jwp, jst, jct, rfd, Btold, Nat.beq, lv_args, rlk, rs1, rs2, rdl, rky, rcd, rno, rsw, Value.category, List.filter, List.take, List.drop, List.reverse, List.reverseAux, List.cons_append, List.nil_append, Option.toList, Int.toNat, Int.reduceToNat, if_pos, if_neg, reduceIte, ↓reduceIte, Nat.reduceAdd, Nat.reduceEqDiff, Nat.reduceBEq, beq_self_eq_true, Bool.not_true, Bool.not_false, Bool.and_true, Bool.and_false, Bool.true_and, Bool.false_and, gI_sI, gI_sL, gI_sA, gI_sM, gL_sI, gL_sL, gL_sA, gL_sM, aI_sI, aI_sL, aI_sA, aI_sM, aL_sI, aL_sL, aL_sA, aL_sM, Btold_0, Btold_23, Btold_32, Btold_34, oi_0, oi_1, oi_20, oi_45, oi_59, Pj_declaration, Pu_emit, Pu_scope, Pj_want]; try dsimp only
    try simp only [hR.e2, hR.e14, hR.e15, hR.e17, hR.e18, hR.e36, hR.e42, hR.e49, hR.e62, hR.a3, hR.a6, hR.a51, hR.a19, hR.a63, hR.a64, hR.hp]
    refine ⟨⟨trivial, trivial⟩, fun w2 τ2 w2' τ2' hq2 => ?_⟩
    obtain ⟨⟨rfl, hE2⟩, rfl, hF2⟩ := hq2
    have hR2 : Rj 1 τ2 τ2' := Rj.em (by (repeat (first | exact hR | refine Rj.i ?_ rfl | refine Rj.a ?_ rfl | refine Rj.m ?_ | refine Rj.s ?_ (by decide) | refine Rj.o1 ?_ (by first | lia | (dsimp only [Nat.beq, gI_sI, gI_sL, gI_sA, gI_sM, gL_sI, gL_sL, gL_sA, gL_sM, aI_sI, aI_sL, aI_sA, aI_sM, aL_sI, aL_sL, aL_sA, aL_sM]; lia)) | refine Rj.o2 ?_ | refine Rj.f1 ?_ (by first | lia | (dsimp only [Nat.beq, gI_sI, gI_sL, gI_sA, gI_sM, gL_sI, gL_sL, gL_sA, gL_sM, aI_sI, aI_sL, aI_sA, aI_sM, aL_sI, aL_sL, aL_sA, aL_sM]; lia)) | refine Rj.f2 ?_ | refine Rj.fs ?_))) hE2 hF2 (by first | exact fun _ => rfl | exact fun q => absurd q (by decide))
    have hp2 := hE2.1 14 (by decide)
    have ho2 := hE2.1 29 (by decide)
    have hh2 := hE2.1 62 (by decide)
    have hg2 := hE2.1 49 (by decide)
    have hw2 := hE2.1 34 (by decide)
    have hv2 := hF2.1 34 (by decide)
    have ht2 := hE2.2.2.2.2.1 3 (by decide)
    try dsimp only [Nat.beq, gI_sI, gI_sL, gI_sA, gI_sM, gL_sI, gL_sL, gL_sA, gL_sM, aI_sI, aI_sL, aI_sA, aI_sM, aL_sI, aL_sL, aL_sA, aL_sM] at hp2
    try dsimp only [Nat.beq, gI_sI, gI_sL, gI_sA, gI_sM, gL_sI, gL_sL, gL_sA, gL_sM, aI_sI, aI_sL, aI_sA, aI_sM, aL_sI, aL_sL, aL_sA, aL_sM] at ho2
    try dsimp only [Nat.beq, gI_sI, gI_sL, gI_sA, gI_sM, gL_sI, gL_sL, gL_sA, gL_sM, aI_sI, aI_sL, aI_sA, aI_sM, aL_sI, aL_sL, aL_sA, aL_sM] at hh2
    try dsimp only [Nat.beq, gI_sI, gI_sL, gI_sA, gI_sM, gL_sI, gL_sL, gL_sA, gL_sM, aI_sI, aI_sL, aI_sA, aI_sM, aL_sI, aL_sL, aL_sA, aL_sM] at hg2
    try dsimp only [Nat.beq, gI_sI, gI_sL, gI_sA, gI_sM, gL_sI, gL_sL, gL_sA, gL_sM, aI_sI, aI_sL, aI_sA, aI_sM, aL_sI, aL_sL, aL_sA, aL_sM] at hw2
    try dsimp only [Nat.beq, gI_sI, gI_sL, gI_sA, gI_sM, gL_sI, gL_sL, gL_sA, gL_sM, aI_sI, aI_sL, aI_sA, aI_sM, aL_sI, aL_sL, aL_sA, aL_sM] at hv2
    try dsimp only [Nat.beq, gI_sI, gI_sL, gI_sA, gI_sM, gL_sI, gL_sL, gL_sA, gL_sM, aI_sI, aI_sL, aI_sA, aI_sM, aL_sI, aL_sL, aL_sA, aL_sM] at ht2
    have hz2 := congrFun ht2 (gI τ2 14).toNatClampNeg
    dsimp only [Option.toList, List.cons_append, List.nil_append, Nat.beq, gI_sI, gI_sL, gI_sA, gI_sM, gL_sI, gL_sL, gL_sA, gL_sM, aI_sI, aI_sL, aI_sA, aI_sM, aL_sI, aL_sL, aL_sA, aL_sM]
    try simp only [hR2.e2, hR2.e14, hR2.e15, hR2.e17, hR2.e18, hR2.e36, hR2.e42, hR2.e49, hR2.e62, hR2.a3, hR2.a6, hR2.a51, hR2.a19, hR2.a63, hR2.a64, hR2.hp, hR.e18]
    refine ⟨⟨trivial, trivial⟩, fun w3 τ3 w3' τ3' hq3 => ?_⟩
    obtain ⟨⟨r3, rfl, rfl⟩, r3', rfl, rfl⟩ := hq3
    dsimp only [Option.toList, List.cons_append, List.nil_append, Nat.beq, gI_sI, gI_sL, gI_sA, gI_sM, gL_sI, gL_sL, gL_sA, gL_sM, aI_sI, aI_sL, aI_sA, aI_sM, aL_sI, aL_sL, aL_sA, aL_sM]
    try simp only [hR2.e2, hR2.e14, hR2.e15, hR2.e17, hR2.e18, hR2.e36, hR2.e42, hR2.e49, hR2.e62, hR2.a3, hR2.a6, hR2.a51, hR2.a19, hR2.a63, hR2.a64, hR2.hp, hR.e18]
    refine ⟨(by (repeat (first | exact hR2 | refine Rj.i ?_ rfl | refine Rj.a ?_ rfl | refine Rj.m ?_ | refine Rj.s ?_ (by decide) | refine Rj.o1 ?_ (by first | lia | (dsimp only [Nat.beq, gI_sI, gI_sL, gI_sA, gI_sM, gL_sI, gL_sL, gL_sA, gL_sM, aI_sI, aI_sL, aI_sA, aI_sM, aL_sI, aL_sL, aL_sA, aL_sM]; lia)) | refine Rj.o2 ?_ | refine Rj.f1 ?_ (by first | lia | (dsimp only [Nat.beq, gI_sI, gI_sL, gI_sA, gI_sM, gL_sI, gL_sL, gL_sA, gL_sM, aI_sI, aI_sL, aI_sA, aI_sM, aL_sI, aL_sL, aL_sA, aL_sM]; lia)) | refine Rj.f2 ?_ | refine Rj.fs ?_))), fun w4 τ4 w4' τ4' hq4 => ?_⟩
    obtain ⟨b4, rfl, rfl, hb4⟩ := hq4
    rcases hb4 with rfl | ⟨rfl, hR4, hk4⟩
    · dsimp only [Option.toList, List.cons_append, List.nil_append, Nat.beq, gI_sI, gI_sL, gI_sA, gI_sM, gL_sI, gL_sL, gL_sA, gL_sM, aI_sI, aI_sL, aI_sA, aI_sM, aL_sI, aL_sL, aL_sA, aL_sM]
      try simp only [hR2.e2, hR2.e14, hR2.e15, hR2.e17, hR2.e18, hR2.e36, hR2.e42, hR2.e49, hR2.e62, hR2.a3, hR2.a6, hR2.a51, hR2.a19, hR2.a63, hR2.a64, hR2.hp, hR.e18]
      refine ⟨fun h5 => ⟨(by exact h5), ?_⟩, fun h5 => absurd h5 (by decide)⟩
      clear h5
      refine hB _ _ _ _ _ _ _ _ (fun m6 hm6 => ?_)
      dsimp only [jgo, jwp, jst, jct, rfd, Btold, Nat.beq, lv_args, rlk, rs1, rs2, rdl, rky, rcd, rno, rsw, Value.category, List.filter, List.take, List.drop, List.reverse, List.reverseAux, List.cons_append, List.nil_append, Option.toList, Int.toNat, Int.reduceToNat, if_pos, if_neg, reduceIte, ↓reduceIte, Nat.reduceAdd, Nat.reduceEqDiff, Nat.reduceBEq, beq_self_eq_true, Bool.not_true, Bool.not_false, Bool.and_true, Bool.and_false, Bool.true_and, Bool.false_and, gI_sI, gI_sL, gI_sA, gI_sM, gL_sI, gL_sL, gL_sA, gL_sM, aI_sI, aI_sL, aI_sA, aI_sM, aL_sI, aL_sL, aL_sA, aL_sM, Btold_0, Btold_23, Btold_32, Btold_34, oi_0, oi_1, oi_20, oi_45, oi_59, Pj_declaration, Pu_emit, Pu_scope, Pj_want]; try dsimp only
      try simp only [hR2.e2, hR2.e14, hR2.e15, hR2.e17, hR2.e18, hR2.e36, hR2.e42, hR2.e49, hR2.e62, hR2.a3, hR2.a6, hR2.a51, hR2.a19, hR2.a63, hR2.a64, hR2.hp, hR.e18]
      unfold Qj_told
      try dsimp only
      exact ⟨_, rfl, rfl, Or.inl rfl⟩
    · dsimp only [Option.toList, List.cons_append, List.nil_append, Nat.beq, gI_sI, gI_sL, gI_sA, gI_sM, gL_sI, gL_sL, gL_sA, gL_sM, aI_sI, aI_sL, aI_sA, aI_sM, aL_sI, aL_sL, aL_sA, aL_sM]
      have hh4 := hk4.1 62 rfl
      have hg4 := hk4.1 49 rfl
      try dsimp only [Nat.beq, gI_sI, gI_sL, gI_sA, gI_sM, gL_sI, gL_sL, gL_sA, gL_sM, aI_sI, aI_sL, aI_sA, aI_sM, aL_sI, aL_sL, aL_sA, aL_sM] at hh4
      try dsimp only [Nat.beq, gI_sI, gI_sL, gI_sA, gI_sM, gL_sI, gL_sL, gL_sA, gL_sM, aI_sI, aI_sL, aI_sA, aI_sM, aL_sI, aL_sL, aL_sA, aL_sM] at hg4
      try simp only [hR4.e2, hR4.e14, hR4.e15, hR4.e17, hR4.e18, hR4.e36, hR4.e42, hR4.e49, hR4.e62, hR4.a3, hR4.a6, hR4.a51, hR4.a19, hR4.a63, hR4.a64, hR4.hp, hR.e18]
      refine ⟨fun h7 => absurd h7 (by decide), fun h7 => ⟨(by exact h7), ?_⟩⟩
      clear h7
      refine hB _ _ _ _ _ _ _ _ (fun m8 hm8 => ?_)
      dsimp only [jgo, jwp, jst, jct, rfd, Btold, Nat.beq, lv_args, rlk, rs1, rs2, rdl, rky, rcd, rno, rsw, Value.category, List.filter, List.take, List.drop, List.reverse, List.reverseAux, List.cons_append, List.nil_append, Option.toList, Int.toNat, Int.reduceToNat, if_pos, if_neg, reduceIte, ↓reduceIte, Nat.reduceAdd, Nat.reduceEqDiff, Nat.reduceBEq, beq_self_eq_true, Bool.not_true, Bool.not_false, Bool.and_true, Bool.and_false, Bool.true_and, Bool.false_and, gI_sI, gI_sL, gI_sA, gI_sM, gL_sI, gL_sL, gL_sA, gL_sM, aI_sI, aI_sL, aI_sA, aI_sM, aL_sI, aL_sL, aL_sA, aL_sM, Btold_0, Btold_23, Btold_32, Btold_34, oi_0, oi_1, oi_20, oi_45, oi_59, Pj_declaration, Pu_emit, Pu_scope, Pj_want]; try dsimp only
      try simp only [hR4.e2, hR4.e14, hR4.e15, hR4.e17, hR4.e18, hR4.e36, hR4.e42, hR4.e49, hR4.e62, hR4.a3, hR4.a6, hR4.a51, hR4.a19, hR4.a63, hR4.a64, hR4.hp, hR.e18]
      refine ⟨⟨(Rj.w (md := 1) (by (repeat (first | exact hR4 | refine Rj.i ?_ rfl | refine Rj.a ?_ rfl | refine Rj.m ?_ | refine Rj.s ?_ (by decide) | refine Rj.o1 ?_ (by first | lia | (dsimp only [Nat.beq, gI_sI, gI_sL, gI_sA, gI_sM, gL_sI, gL_sL, gL_sA, gL_sM, aI_sI, aI_sL, aI_sA, aI_sM, aL_sI, aL_sL, aL_sA, aL_sM]; lia)) | refine Rj.o2 ?_ | refine Rj.f1 ?_ (by first | lia | (dsimp only [Nat.beq, gI_sI, gI_sL, gI_sA, gI_sM, gL_sI, gL_sL, gL_sA, gL_sM, aI_sI, aI_sL, aI_sA, aI_sM, aL_sI, aL_sL, aL_sA, aL_sM]; lia)) | refine Rj.f2 ?_ | refine Rj.fs ?_)))), (by first | exact True.intro | rfl)⟩, fun w9 τ9 w9' τ9' hq9 => ?_⟩
      obtain ⟨b9, rfl, rfl, hb9⟩ := hq9
      rcases hb9 with rfl | ⟨rfl, hr9, hk9, hx9⟩
      · dsimp only [Option.toList, List.cons_append, List.nil_append, Nat.beq, gI_sI, gI_sL, gI_sA, gI_sM, gL_sI, gL_sL, gL_sA, gL_sM, aI_sI, aI_sL, aI_sA, aI_sM, aL_sI, aL_sL, aL_sA, aL_sM]
        try simp only [hR4.e2, hR4.e14, hR4.e15, hR4.e17, hR4.e18, hR4.e36, hR4.e42, hR4.e49, hR4.e62, hR4.a3, hR4.a6, hR4.a51, hR4.a19, hR4.a63, hR4.a64, hR4.hp, hR.e18]
        refine ⟨fun h10 => absurd h10 (by decide), fun h10 => ⟨(by exact h10), ?_⟩⟩
        clear h10
        refine hB _ _ _ _ _ _ _ _ (fun m11 hm11 => ?_)
        dsimp only [jgo, jwp, jst, jct, rfd, Btold, Nat.beq, lv_args, rlk, rs1, rs2, rdl, rky, rcd, rno, rsw, Value.category, List.filter, List.take, List.drop, List.reverse, List.reverseAux, List.cons_append, List.nil_append, Option.toList, Int.toNat, Int.reduceToNat, if_pos, if_neg, reduceIte, ↓reduceIte, Nat.reduceAdd, Nat.reduceEqDiff, Nat.reduceBEq, beq_self_eq_true, Bool.not_true, Bool.not_false, Bool.and_true, Bool.and_false, Bool.true_and, Bool.false_and, gI_sI, gI_sL, gI_sA, gI_sM, gL_sI, gL_sL, gL_sA, gL_sM, aI_sI, aI_sL, aI_sA, aI_sM, aL_sI, aL_sL, aL_sA, aL_sM, Btold_0, Btold_23, Btold_32, Btold_34, oi_0, oi_1, oi_20, oi_45, oi_59, Pj_declaration, Pu_emit, Pu_scope, Pj_want]; try dsimp only
        try simp only [hR4.e2, hR4.e14, hR4.e15, hR4.e17, hR4.e18, hR4.e36, hR4.e42, hR4.e49, hR4.e62, hR4.a3, hR4.a6, hR4.a51, hR4.a19, hR4.a63, hR4.a64, hR4.hp, hR.e18]
        unfold Qj_told
        try dsimp only
        exact ⟨_, rfl, rfl, Or.inl rfl⟩
      · dsimp only [Option.toList, List.cons_append, List.nil_append, Nat.beq, gI_sI, gI_sL, gI_sA, gI_sM, gL_sI, gL_sL, gL_sA, gL_sM, aI_sI, aI_sL, aI_sA, aI_sM, aL_sI, aL_sL, aL_sA, aL_sM]
        have hR9 : Rj 1 τ9 τ9' := hr9 _ (by (repeat (first | exact hR4 | refine Rj.i ?_ rfl | refine Rj.a ?_ rfl | refine Rj.m ?_ | refine Rj.s ?_ (by decide) | refine Rj.o1 ?_ (by first | lia | (dsimp only [Nat.beq, gI_sI, gI_sL, gI_sA, gI_sM, gL_sI, gL_sL, gL_sA, gL_sM, aI_sI, aI_sL, aI_sA, aI_sM, aL_sI, aL_sL, aL_sA, aL_sM]; lia)) | refine Rj.o2 ?_ | refine Rj.f1 ?_ (by first | lia | (dsimp only [Nat.beq, gI_sI, gI_sL, gI_sA, gI_sM, gL_sI, gL_sL, gL_sA, gL_sM, aI_sI, aI_sL, aI_sA, aI_sM, aL_sI, aL_sL, aL_sA, aL_sM]; lia)) | refine Rj.f2 ?_ | refine Rj.fs ?_)))
        have ht9 := hk9.2 3 rfl
        have hc9 := hk9.1 2 rfl
        try dsimp only [Nat.beq, gI_sI, gI_sL, gI_sA, gI_sM, gL_sI, gL_sL, gL_sA, gL_sM, aI_sI, aI_sL, aI_sA, aI_sM, aL_sI, aL_sL, aL_sA, aL_sM] at hx9
        try dsimp only [Nat.beq, gI_sI, gI_sL, gI_sA, gI_sM, gL_sI, gL_sL, gL_sA, gL_sM, aI_sI, aI_sL, aI_sA, aI_sM, aL_sI, aL_sL, aL_sA, aL_sM] at ht9
        try dsimp only [Nat.beq, gI_sI, gI_sL, gI_sA, gI_sM, gL_sI, gL_sL, gL_sA, gL_sM, aI_sI, aI_sL, aI_sA, aI_sM, aL_sI, aL_sL, aL_sA, aL_sM] at hc9
        have hh9 := hk9.1 62 rfl
        have hg9 := hk9.1 49 rfl
        try dsimp only [Nat.beq, gI_sI, gI_sL, gI_sA, gI_sM, gL_sI, gL_sL, gL_sA, gL_sM, aI_sI, aI_sL, aI_sA, aI_sM, aL_sI, aL_sL, aL_sA, aL_sM] at hh9
        try dsimp only [Nat.beq, gI_sI, gI_sL, gI_sA, gI_sM, gL_sI, gL_sL, gL_sA, gL_sM, aI_sI, aI_sL, aI_sA, aI_sM, aL_sI, aL_sL, aL_sA, aL_sM] at hg9
        have hz9 := congrFun ht9 (gI τ9 14).toNatClampNeg
        try simp only [hR9.e2, hR9.e14, hR9.e15, hR9.e17, hR9.e18, hR9.e36, hR9.e42, hR9.e49, hR9.e62, hR9.a3, hR9.a6, hR9.a51, hR9.a19, hR9.a63, hR9.a64, hR9.hp, hR.e18]
        refine ⟨fun h12 => ⟨(by exact h12), ?_⟩, fun h12 => absurd h12 (by decide)⟩
        clear h12
        refine hB _ _ _ _ _ _ _ _ (fun m13 hm13 => ?_)
        dsimp only [jgo, jwp, jst, jct, rfd, Btold, Nat.beq, lv_args, rlk, rs1, rs2, rdl, rky, rcd, rno, rsw, Value.category, List.filter, List.take, List.drop, List.reverse, List.reverseAux, List.cons_append, List.nil_append, Option.toList, Int.toNat, Int.reduceToNat, if_pos, if_neg, reduceIte, ↓reduceIte, Nat.reduceAdd, Nat.reduceEqDiff, Nat.reduceBEq, beq_self_eq_true, Bool.not_true, Bool.not_false, Bool.and_true, Bool.and_false, Bool.true_and, Bool.false_and, gI_sI, gI_sL, gI_sA, gI_sM, gL_sI, gL_sL, gL_sA, gL_sM, aI_sI, aI_sL, aI_sA, aI_sM, aL_sI, aL_sL, aL_sA, aL_sM, Btold_0, Btold_23, Btold_32, Btold_34, oi_0, oi_1, oi_20, oi_45, oi_59, Pj_declaration, Pu_emit, Pu_scope, Pj_want]; try dsimp only
        try simp only [hR9.e2, hR9.e14, hR9.e15, hR9.e17, hR9.e18, hR9.e36, hR9.e42, hR9.e49, hR9.e62, hR9.a3, hR9.a6, hR9.a51, hR9.a19, hR9.a63, hR9.a64, hR9.hp, hR.e18]
        intro p14 q14
        try simp only [hR9.e2, hR9.e14, hR9.e15, hR9.e17, hR9.e18, hR9.e36, hR9.e42, hR9.e49, hR9.e62, hR9.a3, hR9.a6, hR9.a51, hR9.a19, hR9.a63, hR9.a64, hR9.hp, hR.e18]
        refine ⟨⟨trivial, trivial⟩, fun w15 τ15 w15' τ15' hq15 => ?_⟩
        obtain ⟨⟨rfl, hE15⟩, rfl, hF15⟩ := hq15
        have hR15 : Rj 1 τ15 τ15' := Rj.em (by (repeat (first | exact hR9 | refine Rj.i ?_ rfl | refine Rj.a ?_ rfl | refine Rj.m ?_ | refine Rj.s ?_ (by decide) | refine Rj.o1 ?_ (by first | lia | (dsimp only [Nat.beq, gI_sI, gI_sL, gI_sA, gI_sM, gL_sI, gL_sL, gL_sA, gL_sM, aI_sI, aI_sL, aI_sA, aI_sM, aL_sI, aL_sL, aL_sA, aL_sM]; lia)) | refine Rj.o2 ?_ | refine Rj.f1 ?_ (by first | lia | (dsimp only [Nat.beq, gI_sI, gI_sL, gI_sA, gI_sM, gL_sI, gL_sL, gL_sA, gL_sM, aI_sI, aI_sL, aI_sA, aI_sM, aL_sI, aL_sL, aL_sA, aL_sM]; lia)) | refine Rj.f2 ?_ | refine Rj.fs ?_))) hE15 hF15 (by first | exact fun _ => rfl | exact fun q => absurd q (by decide))
        have hp15 := hE15.1 14 (by decide)
        have ho15 := hE15.1 29 (by decide)
        have hh15 := hE15.1 62 (by decide)
        have hg15 := hE15.1 49 (by decide)
        have hw15 := hE15.1 34 (by decide)
        have hv15 := hF15.1 34 (by decide)
        have ht15 := hE15.2.2.2.2.1 3 (by decide)
        try dsimp only [Nat.beq, gI_sI, gI_sL, gI_sA, gI_sM, gL_sI, gL_sL, gL_sA, gL_sM, aI_sI, aI_sL, aI_sA, aI_sM, aL_sI, aL_sL, aL_sA, aL_sM] at hp15
        try dsimp only [Nat.beq, gI_sI, gI_sL, gI_sA, gI_sM, gL_sI, gL_sL, gL_sA, gL_sM, aI_sI, aI_sL, aI_sA, aI_sM, aL_sI, aL_sL, aL_sA, aL_sM] at ho15
        try dsimp only [Nat.beq, gI_sI, gI_sL, gI_sA, gI_sM, gL_sI, gL_sL, gL_sA, gL_sM, aI_sI, aI_sL, aI_sA, aI_sM, aL_sI, aL_sL, aL_sA, aL_sM] at hh15
        try dsimp only [Nat.beq, gI_sI, gI_sL, gI_sA, gI_sM, gL_sI, gL_sL, gL_sA, gL_sM, aI_sI, aI_sL, aI_sA, aI_sM, aL_sI, aL_sL, aL_sA, aL_sM] at hg15
        try dsimp only [Nat.beq, gI_sI, gI_sL, gI_sA, gI_sM, gL_sI, gL_sL, gL_sA, gL_sM, aI_sI, aI_sL, aI_sA, aI_sM, aL_sI, aL_sL, aL_sA, aL_sM] at hw15
        try dsimp only [Nat.beq, gI_sI, gI_sL, gI_sA, gI_sM, gL_sI, gL_sL, gL_sA, gL_sM, aI_sI, aI_sL, aI_sA, aI_sM, aL_sI, aL_sL, aL_sA, aL_sM] at hv15
        try dsimp only [Nat.beq, gI_sI, gI_sL, gI_sA, gI_sM, gL_sI, gL_sL, gL_sA, gL_sM, aI_sI, aI_sL, aI_sA, aI_sM, aL_sI, aL_sL, aL_sA, aL_sM] at ht15
        have hz15 := congrFun ht15 (gI τ15 14).toNatClampNeg
        dsimp only [Option.toList, List.cons_append, List.nil_append, Nat.beq, gI_sI, gI_sL, gI_sA, gI_sM, gL_sI, gL_sL, gL_sA, gL_sM, aI_sI, aI_sL, aI_sA, aI_sM, aL_sI, aL_sL, aL_sA, aL_sM]
        try simp only [hR15.e2, hR15.e14, hR15.e15, hR15.e17, hR15.e18, hR15.e36, hR15.e42, hR15.e49, hR15.e62, hR15.a3, hR15.a6, hR15.a51, hR15.a19, hR15.a63, hR15.a64, hR15.hp, hR.e18, hR9.e18]
        unfold Qj_told
        try dsimp only
        exact ⟨_, rfl, rfl, Or.inr ⟨rfl, by (repeat (first | exact hR15 | refine Rj.i ?_ rfl | refine Rj.a ?_ rfl | refine Rj.m ?_ | refine Rj.s ?_ (by decide) | refine Rj.o1 ?_ (by first | lia | (dsimp only [Nat.beq, gI_sI, gI_sL, gI_sA, gI_sM, gL_sI, gL_sL, gL_sA, gL_sM, aI_sI, aI_sL, aI_sA, aI_sM, aL_sI, aL_sL, aL_sA, aL_sM]; lia)) | refine Rj.o2 ?_ | refine Rj.f1 ?_ (by first | lia | (dsimp only [Nat.beq, gI_sI, gI_sL, gI_sA, gI_sM, gL_sI, gL_sL, gL_sA, gL_sM, aI_sI, aI_sL, aI_sA, aI_sM, aL_sI, aL_sL, aL_sA, aL_sM]; lia)) | refine Rj.f2 ?_ | refine Rj.fs ?_)), by (repeat (first | exact Kx.rf | refine Kx.i ?_ rfl | refine Kx.a ?_ rfl | refine Kx.m ?_ | refine Kx.tr ?_ hE15.kx | refine Kx.tr ?_ hk9 | refine Kx.tr ?_ hk4 | refine Kx.tr ?_ hE2.kx))⟩⟩
  next => exact hP.elim
def Pj_condition : JPr := fun A1 A2 σ ρ => match A1, A2 with
  | [], [] => Rj 1 σ ρ
  | _, _ => False
def Qj_condition : JQr := fun A1 A2 σ ρ w τ w' τ' => match A1, A2 with
  | [], [] => ∃ b : Int32, w = some (.int b) ∧ w' = some (.int b) ∧ (b = 0 ∨ (b = 1 ∧ Rj 1 τ τ' ∧ Kx σ τ))
  | _, _ => False
set_option maxRecDepth 100000 in
set_option maxHeartbeats 4000000 in
theorem j_condition : JMet 52 Pj_condition Qj_condition := by
  refine JMet.by Bcondition [(27, Pj_expression, Qj_expression), (18, Pj_want, Qj_want)] rfl (jcc j_expression (jcc j_want jc0)) ?_
  intro A1 A2 σ ρ hP K hB hW
  unfold Pj_condition at hP
  split at hP
  next =>
    have hR := hP
    intro n0
    refine hB _ _ _ _ _ _ _ _ (fun m1 hm1 => ?_)
    dsimp only [jgo, jwp, jst, jct, rfd, Bcondition, Nat.beq, lv_args, rlk, rs1, rs2, rdl, rky, rcd, rno, rsw, Value.category, List.filter, List.take, List.drop, List.reverse, List.reverseAux, List.cons_append, List.nil_append, Option.toList, Int.toNat, Int.reduceToNat, if_pos, if_neg, reduceIte, ↓reduceIte, Nat.reduceAdd, Nat.reduceEqDiff, Nat.reduceBEq, beq_self_eq_true, Bool.not_true, Bool.not_false, Bool.and_true, Bool.and_false, Bool.true_and, Bool.false_and, gI_sI, gI_sL, gI_sA, gI_sM, gL_sI, gL_sL, gL_sA, gL_sM, aI_sI, aI_sL, aI_sA, aI_sM, aL_sI, aL_sL, aL_sA, aL_sM, Bcondition_0, Bcondition_9, Bcondition_16, Bcondition_25, Bcondition_29, Bcondition_30, oi_0, oi_1, oi_40, oi_41, Pj_expression, Pj_want]; try dsimp only
    try simp only [hR.e2, hR.e14, hR.e15, hR.e17, hR.e18, hR.e36, hR.e42, hR.e49, hR.e62, hR.a3, hR.a6, hR.a51, hR.a19, hR.a63, hR.a64, hR.hp]
    refine ⟨⟨(Rj.w (md := 1) (by (repeat (first | exact hR | refine Rj.i ?_ rfl | refine Rj.a ?_ rfl | refine Rj.m ?_ | refine Rj.s ?_ (by decide) | refine Rj.o1 ?_ (by first | lia | (dsimp only [Nat.beq, gI_sI, gI_sL, gI_sA, gI_sM, gL_sI, gL_sL, gL_sA, gL_sM, aI_sI, aI_sL, aI_sA, aI_sM, aL_sI, aL_sL, aL_sA, aL_sM]; lia)) | refine Rj.o2 ?_ | refine Rj.f1 ?_ (by first | lia | (dsimp only [Nat.beq, gI_sI, gI_sL, gI_sA, gI_sM, gL_sI, gL_sL, gL_sA, gL_sM, aI_sI, aI_sL, aI_sA, aI_sM, aL_sI, aL_sL, aL_sA, aL_sM]; lia)) | refine Rj.f2 ?_ | refine Rj.fs ?_)))), (by first | exact True.intro | rfl)⟩, fun w2 τ2 w2' τ2' hq2 => ?_⟩
    obtain ⟨b2, rfl, rfl, hb2⟩ := hq2
    rcases hb2 with rfl | ⟨rfl, hr2, hk2, hx2⟩
    · dsimp only [Option.toList, List.cons_append, List.nil_append, Nat.beq, gI_sI, gI_sL, gI_sA, gI_sM, gL_sI, gL_sL, gL_sA, gL_sM, aI_sI, aI_sL, aI_sA, aI_sM, aL_sI, aL_sL, aL_sA, aL_sM]
      try simp only [hR.e2, hR.e14, hR.e15, hR.e17, hR.e18, hR.e36, hR.e42, hR.e49, hR.e62, hR.a3, hR.a6, hR.a51, hR.a19, hR.a63, hR.a64, hR.hp]
      refine ⟨fun h3 => ⟨(by exact h3), ?_⟩, fun h3 => absurd h3 (by decide)⟩
      clear h3
      refine hB _ _ _ _ _ _ _ _ (fun m4 hm4 => ?_)
      dsimp only [jgo, jwp, jst, jct, rfd, Bcondition, Nat.beq, lv_args, rlk, rs1, rs2, rdl, rky, rcd, rno, rsw, Value.category, List.filter, List.take, List.drop, List.reverse, List.reverseAux, List.cons_append, List.nil_append, Option.toList, Int.toNat, Int.reduceToNat, if_pos, if_neg, reduceIte, ↓reduceIte, Nat.reduceAdd, Nat.reduceEqDiff, Nat.reduceBEq, beq_self_eq_true, Bool.not_true, Bool.not_false, Bool.and_true, Bool.and_false, Bool.true_and, Bool.false_and, gI_sI, gI_sL, gI_sA, gI_sM, gL_sI, gL_sL, gL_sA, gL_sM, aI_sI, aI_sL, aI_sA, aI_sM, aL_sI, aL_sL, aL_sA, aL_sM, Bcondition_0, Bcondition_9, Bcondition_16, Bcondition_25, Bcondition_29, Bcondition_30, oi_0, oi_1, oi_40, oi_41, Pj_expression, Pj_want]; try dsimp only
      try simp only [hR.e2, hR.e14, hR.e15, hR.e17, hR.e18, hR.e36, hR.e42, hR.e49, hR.e62, hR.a3, hR.a6, hR.a51, hR.a19, hR.a63, hR.a64, hR.hp]
      refine hB _ _ _ _ _ _ _ _ (fun m5 hm5 => ?_)
      dsimp only [jgo, jwp, jst, jct, rfd, Bcondition, Nat.beq, lv_args, rlk, rs1, rs2, rdl, rky, rcd, rno, rsw, Value.category, List.filter, List.take, List.drop, List.reverse, List.reverseAux, List.cons_append, List.nil_append, Option.toList, Int.toNat, Int.reduceToNat, if_pos, if_neg, reduceIte, ↓reduceIte, Nat.reduceAdd, Nat.reduceEqDiff, Nat.reduceBEq, beq_self_eq_true, Bool.not_true, Bool.not_false, Bool.and_true, Bool.and_false, Bool.true_and, Bool.false_and, gI_sI, gI_sL, gI_sA, gI_sM, gL_sI, gL_sL, gL_sA, gL_sM, aI_sI, aI_sL, aI_sA, aI_sM, aL_sI, aL_sL, aL_sA, aL_sM, Bcondition_0, Bcondition_9, Bcondition_16, Bcondition_25, Bcondition_29, Bcondition_30, oi_0, oi_1, oi_40, oi_41, Pj_expression, Pj_want]; try dsimp only
      try simp only [hR.e2, hR.e14, hR.e15, hR.e17, hR.e18, hR.e36, hR.e42, hR.e49, hR.e62, hR.a3, hR.a6, hR.a51, hR.a19, hR.a63, hR.a64, hR.hp]
      unfold Qj_condition
      try dsimp only
      exact ⟨_, rfl, rfl, Or.inl rfl⟩
    · dsimp only [Option.toList, List.cons_append, List.nil_append, Nat.beq, gI_sI, gI_sL, gI_sA, gI_sM, gL_sI, gL_sL, gL_sA, gL_sM, aI_sI, aI_sL, aI_sA, aI_sM, aL_sI, aL_sL, aL_sA, aL_sM]
      have hR2 : Rj 1 τ2 τ2' := hr2 _ (by (repeat (first | exact hR | refine Rj.i ?_ rfl | refine Rj.a ?_ rfl | refine Rj.m ?_ | refine Rj.s ?_ (by decide) | refine Rj.o1 ?_ (by first | lia | (dsimp only [Nat.beq, gI_sI, gI_sL, gI_sA, gI_sM, gL_sI, gL_sL, gL_sA, gL_sM, aI_sI, aI_sL, aI_sA, aI_sM, aL_sI, aL_sL, aL_sA, aL_sM]; lia)) | refine Rj.o2 ?_ | refine Rj.f1 ?_ (by first | lia | (dsimp only [Nat.beq, gI_sI, gI_sL, gI_sA, gI_sM, gL_sI, gL_sL, gL_sA, gL_sM, aI_sI, aI_sL, aI_sA, aI_sM, aL_sI, aL_sL, aL_sA, aL_sM]; lia)) | refine Rj.f2 ?_ | refine Rj.fs ?_)))
      have ht2 := hk2.2 3 rfl
      have hc2 := hk2.1 2 rfl
      try dsimp only [Nat.beq, gI_sI, gI_sL, gI_sA, gI_sM, gL_sI, gL_sL, gL_sA, gL_sM, aI_sI, aI_sL, aI_sA, aI_sM, aL_sI, aL_sL, aL_sA, aL_sM] at hx2
      try dsimp only [Nat.beq, gI_sI, gI_sL, gI_sA, gI_sM, gL_sI, gL_sL, gL_sA, gL_sM, aI_sI, aI_sL, aI_sA, aI_sM, aL_sI, aL_sL, aL_sA, aL_sM] at ht2
      try dsimp only [Nat.beq, gI_sI, gI_sL, gI_sA, gI_sM, gL_sI, gL_sL, gL_sA, gL_sM, aI_sI, aI_sL, aI_sA, aI_sM, aL_sI, aL_sL, aL_sA, aL_sM] at hc2
      have hh2 := hk2.1 62 rfl
      have hg2 := hk2.1 49 rfl
      try dsimp only [Nat.beq, gI_sI, gI_sL, gI_sA, gI_sM, gL_sI, gL_sL, gL_sA, gL_sM, aI_sI, aI_sL, aI_sA, aI_sM, aL_sI, aL_sL, aL_sA, aL_sM] at hh2
      try dsimp only [Nat.beq, gI_sI, gI_sL, gI_sA, gI_sM, gL_sI, gL_sL, gL_sA, gL_sM, aI_sI, aI_sL, aI_sA, aI_sM, aL_sI, aL_sL, aL_sA, aL_sM] at hg2
      have hz2 := congrFun ht2 (gI τ2 14).toNatClampNeg
      try simp only [hR2.e2, hR2.e14, hR2.e15, hR2.e17, hR2.e18, hR2.e36, hR2.e42, hR2.e49, hR2.e62, hR2.a3, hR2.a6, hR2.a51, hR2.a19, hR2.a63, hR2.a64, hR2.hp]
      refine ⟨fun h6 => absurd h6 (by decide), fun h6 => ⟨(by exact h6), ?_⟩⟩
      clear h6
      refine hB _ _ _ _ _ _ _ _ (fun m7 hm7 => ?_)
      dsimp only [jgo, jwp, jst, jct, rfd, Bcondition, Nat.beq, lv_args, rlk, rs1, rs2, rdl, rky, rcd, rno, rsw, Value.category, List.filter, List.take, List.drop, List.reverse, List.reverseAux, List.cons_append, List.nil_append, Option.toList, Int.toNat, Int.reduceToNat, if_pos, if_neg, reduceIte, ↓reduceIte, Nat.reduceAdd, Nat.reduceEqDiff, Nat.reduceBEq, beq_self_eq_true, Bool.not_true, Bool.not_false, Bool.and_true, Bool.and_false, Bool.true_and, Bool.false_and, gI_sI, gI_sL, gI_sA, gI_sM, gL_sI, gL_sL, gL_sA, gL_sM, aI_sI, aI_sL, aI_sA, aI_sM, aL_sI, aL_sL, aL_sA, aL_sM, Bcondition_0, Bcondition_9, Bcondition_16, Bcondition_25, Bcondition_29, Bcondition_30, oi_0, oi_1, oi_40, oi_41, Pj_expression, Pj_want]; try dsimp only
      try simp only [hR2.e2, hR2.e14, hR2.e15, hR2.e17, hR2.e18, hR2.e36, hR2.e42, hR2.e49, hR2.e62, hR2.a3, hR2.a6, hR2.a51, hR2.a19, hR2.a63, hR2.a64, hR2.hp]
      refine ⟨(by (repeat (first | exact hR2 | refine Rj.i ?_ rfl | refine Rj.a ?_ rfl | refine Rj.m ?_ | refine Rj.s ?_ (by decide) | refine Rj.o1 ?_ (by first | lia | (dsimp only [Nat.beq, gI_sI, gI_sL, gI_sA, gI_sM, gL_sI, gL_sL, gL_sA, gL_sM, aI_sI, aI_sL, aI_sA, aI_sM, aL_sI, aL_sL, aL_sA, aL_sM]; lia)) | refine Rj.o2 ?_ | refine Rj.f1 ?_ (by first | lia | (dsimp only [Nat.beq, gI_sI, gI_sL, gI_sA, gI_sM, gL_sI, gL_sL, gL_sA, gL_sM, aI_sI, aI_sL, aI_sA, aI_sM, aL_sI, aL_sL, aL_sA, aL_sM]; lia)) | refine Rj.f2 ?_ | refine Rj.fs ?_))), fun w8 τ8 w8' τ8' hq8 => ?_⟩
      obtain ⟨b8, rfl, rfl, hb8⟩ := hq8
      rcases hb8 with rfl | ⟨rfl, hR8, hk8⟩
      · dsimp only [Option.toList, List.cons_append, List.nil_append, Nat.beq, gI_sI, gI_sL, gI_sA, gI_sM, gL_sI, gL_sL, gL_sA, gL_sM, aI_sI, aI_sL, aI_sA, aI_sM, aL_sI, aL_sL, aL_sA, aL_sM]
        try simp only [hR2.e2, hR2.e14, hR2.e15, hR2.e17, hR2.e18, hR2.e36, hR2.e42, hR2.e49, hR2.e62, hR2.a3, hR2.a6, hR2.a51, hR2.a19, hR2.a63, hR2.a64, hR2.hp]
        refine ⟨fun h9 => ⟨(by exact h9), ?_⟩, fun h9 => absurd h9 (by decide)⟩
        clear h9
        refine hB _ _ _ _ _ _ _ _ (fun m10 hm10 => ?_)
        dsimp only [jgo, jwp, jst, jct, rfd, Bcondition, Nat.beq, lv_args, rlk, rs1, rs2, rdl, rky, rcd, rno, rsw, Value.category, List.filter, List.take, List.drop, List.reverse, List.reverseAux, List.cons_append, List.nil_append, Option.toList, Int.toNat, Int.reduceToNat, if_pos, if_neg, reduceIte, ↓reduceIte, Nat.reduceAdd, Nat.reduceEqDiff, Nat.reduceBEq, beq_self_eq_true, Bool.not_true, Bool.not_false, Bool.and_true, Bool.and_false, Bool.true_and, Bool.false_and, gI_sI, gI_sL, gI_sA, gI_sM, gL_sI, gL_sL, gL_sA, gL_sM, aI_sI, aI_sL, aI_sA, aI_sM, aL_sI, aL_sL, aL_sA, aL_sM, Bcondition_0, Bcondition_9, Bcondition_16, Bcondition_25, Bcondition_29, Bcondition_30, oi_0, oi_1, oi_40, oi_41, Pj_expression, Pj_want]; try dsimp only
        try simp only [hR2.e2, hR2.e14, hR2.e15, hR2.e17, hR2.e18, hR2.e36, hR2.e42, hR2.e49, hR2.e62, hR2.a3, hR2.a6, hR2.a51, hR2.a19, hR2.a63, hR2.a64, hR2.hp]
        refine hB _ _ _ _ _ _ _ _ (fun m11 hm11 => ?_)
        dsimp only [jgo, jwp, jst, jct, rfd, Bcondition, Nat.beq, lv_args, rlk, rs1, rs2, rdl, rky, rcd, rno, rsw, Value.category, List.filter, List.take, List.drop, List.reverse, List.reverseAux, List.cons_append, List.nil_append, Option.toList, Int.toNat, Int.reduceToNat, if_pos, if_neg, reduceIte, ↓reduceIte, Nat.reduceAdd, Nat.reduceEqDiff, Nat.reduceBEq, beq_self_eq_true, Bool.not_true, Bool.not_false, Bool.and_true, Bool.and_false, Bool.true_and, Bool.false_and, gI_sI, gI_sL, gI_sA, gI_sM, gL_sI, gL_sL, gL_sA, gL_sM, aI_sI, aI_sL, aI_sA, aI_sM, aL_sI, aL_sL, aL_sA, aL_sM, Bcondition_0, Bcondition_9, Bcondition_16, Bcondition_25, Bcondition_29, Bcondition_30, oi_0, oi_1, oi_40, oi_41, Pj_expression, Pj_want]; try dsimp only
        try simp only [hR2.e2, hR2.e14, hR2.e15, hR2.e17, hR2.e18, hR2.e36, hR2.e42, hR2.e49, hR2.e62, hR2.a3, hR2.a6, hR2.a51, hR2.a19, hR2.a63, hR2.a64, hR2.hp]
        unfold Qj_condition
        try dsimp only
        exact ⟨_, rfl, rfl, Or.inl rfl⟩
      · dsimp only [Option.toList, List.cons_append, List.nil_append, Nat.beq, gI_sI, gI_sL, gI_sA, gI_sM, gL_sI, gL_sL, gL_sA, gL_sM, aI_sI, aI_sL, aI_sA, aI_sM, aL_sI, aL_sL, aL_sA, aL_sM]
        have hh8 := hk8.1 62 rfl
        have hg8 := hk8.1 49 rfl
        try dsimp only [Nat.beq, gI_sI, gI_sL, gI_sA, gI_sM, gL_sI, gL_sL, gL_sA, gL_sM, aI_sI, aI_sL, aI_sA, aI_sM, aL_sI, aL_sL, aL_sA, aL_sM] at hh8
        try dsimp only [Nat.beq, gI_sI, gI_sL, gI_sA, gI_sM, gL_sI, gL_sL, gL_sA, gL_sM, aI_sI, aI_sL, aI_sA, aI_sM, aL_sI, aL_sL, aL_sA, aL_sM] at hg8
        try simp only [hR8.e2, hR8.e14, hR8.e15, hR8.e17, hR8.e18, hR8.e36, hR8.e42, hR8.e49, hR8.e62, hR8.a3, hR8.a6, hR8.a51, hR8.a19, hR8.a63, hR8.a64, hR8.hp]
        refine ⟨fun h12 => absurd h12 (by decide), fun h12 => ⟨(by exact h12), ?_⟩⟩
        clear h12
        refine hB _ _ _ _ _ _ _ _ (fun m13 hm13 => ?_)
        dsimp only [jgo, jwp, jst, jct, rfd, Bcondition, Nat.beq, lv_args, rlk, rs1, rs2, rdl, rky, rcd, rno, rsw, Value.category, List.filter, List.take, List.drop, List.reverse, List.reverseAux, List.cons_append, List.nil_append, Option.toList, Int.toNat, Int.reduceToNat, if_pos, if_neg, reduceIte, ↓reduceIte, Nat.reduceAdd, Nat.reduceEqDiff, Nat.reduceBEq, beq_self_eq_true, Bool.not_true, Bool.not_false, Bool.and_true, Bool.and_false, Bool.true_and, Bool.false_and, gI_sI, gI_sL, gI_sA, gI_sM, gL_sI, gL_sL, gL_sA, gL_sM, aI_sI, aI_sL, aI_sA, aI_sM, aL_sI, aL_sL, aL_sA, aL_sM, Bcondition_0, Bcondition_9, Bcondition_16, Bcondition_25, Bcondition_29, Bcondition_30, oi_0, oi_1, oi_40, oi_41, Pj_expression, Pj_want]; try dsimp only
        try simp only [hR8.e2, hR8.e14, hR8.e15, hR8.e17, hR8.e18, hR8.e36, hR8.e42, hR8.e49, hR8.e62, hR8.a3, hR8.a6, hR8.a51, hR8.a19, hR8.a63, hR8.a64, hR8.hp]
        refine ⟨⟨(Rj.w (md := 1) (by (repeat (first | exact hR8 | refine Rj.i ?_ rfl | refine Rj.a ?_ rfl | refine Rj.m ?_ | refine Rj.s ?_ (by decide) | refine Rj.o1 ?_ (by first | lia | (dsimp only [Nat.beq, gI_sI, gI_sL, gI_sA, gI_sM, gL_sI, gL_sL, gL_sA, gL_sM, aI_sI, aI_sL, aI_sA, aI_sM, aL_sI, aL_sL, aL_sA, aL_sM]; lia)) | refine Rj.o2 ?_ | refine Rj.f1 ?_ (by first | lia | (dsimp only [Nat.beq, gI_sI, gI_sL, gI_sA, gI_sM, gL_sI, gL_sL, gL_sA, gL_sM, aI_sI, aI_sL, aI_sA, aI_sM, aL_sI, aL_sL, aL_sA, aL_sM]; lia)) | refine Rj.f2 ?_ | refine Rj.fs ?_)))), (by first | exact True.intro | rfl)⟩, fun w14 τ14 w14' τ14' hq14 => ?_⟩
        obtain ⟨b14, rfl, rfl, hb14⟩ := hq14
        rcases hb14 with rfl | ⟨rfl, hr14, hk14, hx14⟩
        · dsimp only [Option.toList, List.cons_append, List.nil_append, Nat.beq, gI_sI, gI_sL, gI_sA, gI_sM, gL_sI, gL_sL, gL_sA, gL_sM, aI_sI, aI_sL, aI_sA, aI_sM, aL_sI, aL_sL, aL_sA, aL_sM]
          try simp only [hR8.e2, hR8.e14, hR8.e15, hR8.e17, hR8.e18, hR8.e36, hR8.e42, hR8.e49, hR8.e62, hR8.a3, hR8.a6, hR8.a51, hR8.a19, hR8.a63, hR8.a64, hR8.hp]
          refine ⟨fun h15 => ⟨(by exact h15), ?_⟩, fun h15 => absurd h15 (by decide)⟩
          clear h15
          refine hB _ _ _ _ _ _ _ _ (fun m16 hm16 => ?_)
          dsimp only [jgo, jwp, jst, jct, rfd, Bcondition, Nat.beq, lv_args, rlk, rs1, rs2, rdl, rky, rcd, rno, rsw, Value.category, List.filter, List.take, List.drop, List.reverse, List.reverseAux, List.cons_append, List.nil_append, Option.toList, Int.toNat, Int.reduceToNat, if_pos, if_neg, reduceIte, ↓reduceIte, Nat.reduceAdd, Nat.reduceEqDiff, Nat.reduceBEq, beq_self_eq_true, Bool.not_true, Bool.not_false, Bool.and_true, Bool.and_false, Bool.true_and, Bool.false_and, gI_sI, gI_sL, gI_sA, gI_sM, gL_sI, gL_sL, gL_sA, gL_sM, aI_sI, aI_sL, aI_sA, aI_sM, aL_sI, aL_sL, aL_sA, aL_sM, Bcondition_0, Bcondition_9, Bcondition_16, Bcondition_25, Bcondition_29, Bcondition_30, oi_0, oi_1, oi_40, oi_41, Pj_expression, Pj_want]; try dsimp only
          try simp only [hR8.e2, hR8.e14, hR8.e15, hR8.e17, hR8.e18, hR8.e36, hR8.e42, hR8.e49, hR8.e62, hR8.a3, hR8.a6, hR8.a51, hR8.a19, hR8.a63, hR8.a64, hR8.hp]
          refine hB _ _ _ _ _ _ _ _ (fun m17 hm17 => ?_)
          dsimp only [jgo, jwp, jst, jct, rfd, Bcondition, Nat.beq, lv_args, rlk, rs1, rs2, rdl, rky, rcd, rno, rsw, Value.category, List.filter, List.take, List.drop, List.reverse, List.reverseAux, List.cons_append, List.nil_append, Option.toList, Int.toNat, Int.reduceToNat, if_pos, if_neg, reduceIte, ↓reduceIte, Nat.reduceAdd, Nat.reduceEqDiff, Nat.reduceBEq, beq_self_eq_true, Bool.not_true, Bool.not_false, Bool.and_true, Bool.and_false, Bool.true_and, Bool.false_and, gI_sI, gI_sL, gI_sA, gI_sM, gL_sI, gL_sL, gL_sA, gL_sM, aI_sI, aI_sL, aI_sA, aI_sM, aL_sI, aL_sL, aL_sA, aL_sM, Bcondition_0, Bcondition_9, Bcondition_16, Bcondition_25, Bcondition_29, Bcondition_30, oi_0, oi_1, oi_40, oi_41, Pj_expression, Pj_want]; try dsimp only
          try simp only [hR8.e2, hR8.e14, hR8.e15, hR8.e17, hR8.e18, hR8.e36, hR8.e42, hR8.e49, hR8.e62, hR8.a3, hR8.a6, hR8.a51, hR8.a19, hR8.a63, hR8.a64, hR8.hp]
          unfold Qj_condition
          try dsimp only
          exact ⟨_, rfl, rfl, Or.inl rfl⟩
        · dsimp only [Option.toList, List.cons_append, List.nil_append, Nat.beq, gI_sI, gI_sL, gI_sA, gI_sM, gL_sI, gL_sL, gL_sA, gL_sM, aI_sI, aI_sL, aI_sA, aI_sM, aL_sI, aL_sL, aL_sA, aL_sM]
          have hR14 : Rj 1 τ14 τ14' := hr14 _ (by (repeat (first | exact hR8 | refine Rj.i ?_ rfl | refine Rj.a ?_ rfl | refine Rj.m ?_ | refine Rj.s ?_ (by decide) | refine Rj.o1 ?_ (by first | lia | (dsimp only [Nat.beq, gI_sI, gI_sL, gI_sA, gI_sM, gL_sI, gL_sL, gL_sA, gL_sM, aI_sI, aI_sL, aI_sA, aI_sM, aL_sI, aL_sL, aL_sA, aL_sM]; lia)) | refine Rj.o2 ?_ | refine Rj.f1 ?_ (by first | lia | (dsimp only [Nat.beq, gI_sI, gI_sL, gI_sA, gI_sM, gL_sI, gL_sL, gL_sA, gL_sM, aI_sI, aI_sL, aI_sA, aI_sM, aL_sI, aL_sL, aL_sA, aL_sM]; lia)) | refine Rj.f2 ?_ | refine Rj.fs ?_)))
          have ht14 := hk14.2 3 rfl
          have hc14 := hk14.1 2 rfl
          try dsimp only [Nat.beq, gI_sI, gI_sL, gI_sA, gI_sM, gL_sI, gL_sL, gL_sA, gL_sM, aI_sI, aI_sL, aI_sA, aI_sM, aL_sI, aL_sL, aL_sA, aL_sM] at hx14
          try dsimp only [Nat.beq, gI_sI, gI_sL, gI_sA, gI_sM, gL_sI, gL_sL, gL_sA, gL_sM, aI_sI, aI_sL, aI_sA, aI_sM, aL_sI, aL_sL, aL_sA, aL_sM] at ht14
          try dsimp only [Nat.beq, gI_sI, gI_sL, gI_sA, gI_sM, gL_sI, gL_sL, gL_sA, gL_sM, aI_sI, aI_sL, aI_sA, aI_sM, aL_sI, aL_sL, aL_sA, aL_sM] at hc14
          have hh14 := hk14.1 62 rfl
          have hg14 := hk14.1 49 rfl
          try dsimp only [Nat.beq, gI_sI, gI_sL, gI_sA, gI_sM, gL_sI, gL_sL, gL_sA, gL_sM, aI_sI, aI_sL, aI_sA, aI_sM, aL_sI, aL_sL, aL_sA, aL_sM] at hh14
          try dsimp only [Nat.beq, gI_sI, gI_sL, gI_sA, gI_sM, gL_sI, gL_sL, gL_sA, gL_sM, aI_sI, aI_sL, aI_sA, aI_sM, aL_sI, aL_sL, aL_sA, aL_sM] at hg14
          have hz14 := congrFun ht14 (gI τ14 14).toNatClampNeg
          try simp only [hR14.e2, hR14.e14, hR14.e15, hR14.e17, hR14.e18, hR14.e36, hR14.e42, hR14.e49, hR14.e62, hR14.a3, hR14.a6, hR14.a51, hR14.a19, hR14.a63, hR14.a64, hR14.hp]
          refine ⟨fun h18 => absurd h18 (by decide), fun h18 => ⟨(by exact h18), ?_⟩⟩
          clear h18
          refine hB _ _ _ _ _ _ _ _ (fun m19 hm19 => ?_)
          dsimp only [jgo, jwp, jst, jct, rfd, Bcondition, Nat.beq, lv_args, rlk, rs1, rs2, rdl, rky, rcd, rno, rsw, Value.category, List.filter, List.take, List.drop, List.reverse, List.reverseAux, List.cons_append, List.nil_append, Option.toList, Int.toNat, Int.reduceToNat, if_pos, if_neg, reduceIte, ↓reduceIte, Nat.reduceAdd, Nat.reduceEqDiff, Nat.reduceBEq, beq_self_eq_true, Bool.not_true, Bool.not_false, Bool.and_true, Bool.and_false, Bool.true_and, Bool.false_and, gI_sI, gI_sL, gI_sA, gI_sM, gL_sI, gL_sL, gL_sA, gL_sM, aI_sI, aI_sL, aI_sA, aI_sM, aL_sI, aL_sL, aL_sA, aL_sM, Bcondition_0, Bcondition_9, Bcondition_16, Bcondition_25, Bcondition_29, Bcondition_30, oi_0, oi_1, oi_40, oi_41, Pj_expression, Pj_want]; try dsimp only
          try simp only [hR14.e2, hR14.e14, hR14.e15, hR14.e17, hR14.e18, hR14.e36, hR14.e42, hR14.e49, hR14.e62, hR14.a3, hR14.a6, hR14.a51, hR14.a19, hR14.a63, hR14.a64, hR14.hp]
          refine hB _ _ _ _ _ _ _ _ (fun m20 hm20 => ?_)
          dsimp only [jgo, jwp, jst, jct, rfd, Bcondition, Nat.beq, lv_args, rlk, rs1, rs2, rdl, rky, rcd, rno, rsw, Value.category, List.filter, List.take, List.drop, List.reverse, List.reverseAux, List.cons_append, List.nil_append, Option.toList, Int.toNat, Int.reduceToNat, if_pos, if_neg, reduceIte, ↓reduceIte, Nat.reduceAdd, Nat.reduceEqDiff, Nat.reduceBEq, beq_self_eq_true, Bool.not_true, Bool.not_false, Bool.and_true, Bool.and_false, Bool.true_and, Bool.false_and, gI_sI, gI_sL, gI_sA, gI_sM, gL_sI, gL_sL, gL_sA, gL_sM, aI_sI, aI_sL, aI_sA, aI_sM, aL_sI, aL_sL, aL_sA, aL_sM, Bcondition_0, Bcondition_9, Bcondition_16, Bcondition_25, Bcondition_29, Bcondition_30, oi_0, oi_1, oi_40, oi_41, Pj_expression, Pj_want]; try dsimp only
          try simp only [hR14.e2, hR14.e14, hR14.e15, hR14.e17, hR14.e18, hR14.e36, hR14.e42, hR14.e49, hR14.e62, hR14.a3, hR14.a6, hR14.a51, hR14.a19, hR14.a63, hR14.a64, hR14.hp]
          unfold Qj_condition
          try dsimp only
          exact ⟨_, rfl, rfl, Or.inr ⟨rfl, by (repeat (first | exact hR14 | refine Rj.i ?_ rfl | refine Rj.a ?_ rfl | refine Rj.m ?_ | refine Rj.s ?_ (by decide) | refine Rj.o1 ?_ (by first | lia | (dsimp only [Nat.beq, gI_sI, gI_sL, gI_sA, gI_sM, gL_sI, gL_sL, gL_sA, gL_sM, aI_sI, aI_sL, aI_sA, aI_sM, aL_sI, aL_sL, aL_sA, aL_sM]; lia)) | refine Rj.o2 ?_ | refine Rj.f1 ?_ (by first | lia | (dsimp only [Nat.beq, gI_sI, gI_sL, gI_sA, gI_sM, gL_sI, gL_sL, gL_sA, gL_sM, aI_sI, aI_sL, aI_sA, aI_sM, aL_sI, aL_sL, aL_sA, aL_sM]; lia)) | refine Rj.f2 ?_ | refine Rj.fs ?_)), by (repeat (first | exact Kx.rf | refine Kx.i ?_ rfl | refine Kx.a ?_ rfl | refine Kx.m ?_ | refine Kx.tr ?_ hk14 | refine Kx.tr ?_ hk8 | refine Kx.tr ?_ hk2))⟩⟩
  next => exact hP.elim
