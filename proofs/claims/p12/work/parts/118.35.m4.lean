def P_complete : RP := fun As σ => match As with
  | [] => ∃ σ0, XI σ0 σ [0] 0 0
  | _ => False
def Q_complete : RQ := fun As σ w τ => match As with
  | [] => w = none ∧ (∀ σ0, XI σ0 σ [0] 0 0 → XI σ0 τ [0] 0 0) ∧ (gI τ 14) = (gI σ 14) ∧ Fx σ τ ∧ nT (gI τ 29) ≤ nT (gI σ 29)
  | _ => False
set_option maxRecDepth 100000 in
set_option maxHeartbeats 4000000 in
theorem b_complete : Bod Bcomplete [(21, P_emitExp, Q_emitExp), (32, P_reduce, Q_reduce)] P_complete Q_complete := by
  · intro As σ hP G hB hW
    unfold P_complete at hP
    split at hP
    next => 
      unfold Q_complete at hB
      dsimp only at hB
      obtain ⟨σa, hXa⟩ := hP
      have loop : ∀ n : Nat, ∀ τ : RS, nT (gI τ 29) = n → (∀ σ0, XI σ0 σ [0] 0 0 → XI σ0 τ [0] 0 0) → gI τ 14 = gI σ 14 → Fx σ τ → nT (gI τ 29) ≤ nT (gI σ 29) → ∀ m : Int32, (m = 0 ∨ (m = 1 ∧ 0 < gI τ 29)) → G 18 [(0, .ref 1000), (1, .int m)] [] τ := by
        intro n
        induction n using Nat.strongRecOn with
        | ind n ih =>
          have step : ∀ υ : RS, (∀ σ0, XI σ0 σ [0] 0 0 → XI σ0 υ [0] 0 0) → gI υ 14 = gI σ 14 → Fx σ υ → nT (gI υ 29) < n → nT (gI υ 29) ≤ nT (gI σ 29) → G 217 [(0, .ref 1000)] [] υ := by
            intro υ hX2 hp2 hF2 hl2 hl3
            have hx2 := hX2 σa hXa
            apply hB
            dsimp only [rgo, rfd, Bcomplete, Nat.beq, rwp, rst, lv_args, rlk, rs1, rs2, rdl, rky, rct, rcs, rcd, rno, rsw, Value.category, List.filter, List.take, List.drop, List.reverse, List.reverseAux, List.cons_append, List.nil_append, Option.toList, Int.toNat, Int.reduceToNat, if_pos, if_neg, reduceIte, ↓reduceIte, Nat.reduceAdd, Nat.reduceEqDiff, Nat.reduceBEq, beq_self_eq_true, Bool.not_true, Bool.not_false, Bool.and_true, Bool.and_false, Bool.true_and, Bool.false_and, gI_sI, gI_sL, gI_sA, gI_sM, gL_sI, gL_sL, gL_sA, gL_sM, aI_sI, aI_sL, aI_sA, aI_sM, aL_sI, aL_sL, aL_sA, aL_sM, gI_em, gI_emx, gI_pu, gI_wh, Bcomplete_0, Bcomplete_12, Bcomplete_16, Bcomplete_17, Bcomplete_18, Bcomplete_22, Bcomplete_40, Bcomplete_45, Bcomplete_46, Bcomplete_82, Bcomplete_160, Bcomplete_217, Bcomplete_229, Bcomplete_233, Bcomplete_234, Bcomplete_238, oi_0, oi_1, oi_14, oi_17, oi_2, oi_5, oi_7, P_emitExp, P_reduce]; try dsimp only
            refine ⟨rfl, (by decide), (⟨σa, hx2⟩), fun w1 τ1 hq1 => ?_⟩
            obtain ⟨rfl, hX1, hp1, hF1, hl1⟩ := hq1
            dsimp only [Option.toList, List.cons_append, List.nil_append, Nat.beq, gI_sI, gI_sL, gI_sA, gI_sM, gL_sI, gL_sL, gL_sA, gL_sM, aI_sI, aI_sL, aI_sA, aI_sM, aL_sI, aL_sL, aL_sA, aL_sM, gI_em, gI_emx, gI_pu, gI_wh]
            refine ⟨rfl, fun h2 => ?_, fun h2 => ?_⟩
            · apply hB
              dsimp only [rgo, rfd, Bcomplete, Nat.beq, rwp, rst, lv_args, rlk, rs1, rs2, rdl, rky, rct, rcs, rcd, rno, rsw, Value.category, List.filter, List.take, List.drop, List.reverse, List.reverseAux, List.cons_append, List.nil_append, Option.toList, Int.toNat, Int.reduceToNat, if_pos, if_neg, reduceIte, ↓reduceIte, Nat.reduceAdd, Nat.reduceEqDiff, Nat.reduceBEq, beq_self_eq_true, Bool.not_true, Bool.not_false, Bool.and_true, Bool.and_false, Bool.true_and, Bool.false_and, gI_sI, gI_sL, gI_sA, gI_sM, gL_sI, gL_sL, gL_sA, gL_sM, aI_sI, aI_sL, aI_sA, aI_sM, aL_sI, aL_sL, aL_sA, aL_sM, gI_em, gI_emx, gI_pu, gI_wh, Bcomplete_0, Bcomplete_12, Bcomplete_16, Bcomplete_17, Bcomplete_18, Bcomplete_22, Bcomplete_40, Bcomplete_45, Bcomplete_46, Bcomplete_82, Bcomplete_160, Bcomplete_217, Bcomplete_229, Bcomplete_233, Bcomplete_234, Bcomplete_238, oi_0, oi_1, oi_14, oi_17, oi_2, oi_5, oi_7, P_emitExp, P_reduce]; try dsimp only
              apply hB
              dsimp only [rgo, rfd, Bcomplete, Nat.beq, rwp, rst, lv_args, rlk, rs1, rs2, rdl, rky, rct, rcs, rcd, rno, rsw, Value.category, List.filter, List.take, List.drop, List.reverse, List.reverseAux, List.cons_append, List.nil_append, Option.toList, Int.toNat, Int.reduceToNat, if_pos, if_neg, reduceIte, ↓reduceIte, Nat.reduceAdd, Nat.reduceEqDiff, Nat.reduceBEq, beq_self_eq_true, Bool.not_true, Bool.not_false, Bool.and_true, Bool.and_false, Bool.true_and, Bool.false_and, gI_sI, gI_sL, gI_sA, gI_sM, gL_sI, gL_sL, gL_sA, gL_sM, aI_sI, aI_sL, aI_sA, aI_sM, aL_sI, aL_sL, aL_sA, aL_sM, gI_em, gI_emx, gI_pu, gI_wh, Bcomplete_0, Bcomplete_12, Bcomplete_16, Bcomplete_17, Bcomplete_18, Bcomplete_22, Bcomplete_40, Bcomplete_45, Bcomplete_46, Bcomplete_82, Bcomplete_160, Bcomplete_217, Bcomplete_229, Bcomplete_233, Bcomplete_234, Bcomplete_238, oi_0, oi_1, oi_14, oi_17, oi_2, oi_5, oi_7, P_emitExp, P_reduce]; try dsimp only
              refine hW 18 [(0, .ref 1000), (1, .int 0)] _ _ _ (by simp) (ih _ ?_ _ rfl ?_ ?_ ?_ ?_ 0 ?_)
              · omega
              · intro σ0 hσ0
                exact hX1 σ0 (hX2 σ0 hσ0)
              · exact hp1.trans hp2
              · exact hF2.tr hF1
              · omega
              · exact Or.inl rfl
            · apply hB
              dsimp only [rgo, rfd, Bcomplete, Nat.beq, rwp, rst, lv_args, rlk, rs1, rs2, rdl, rky, rct, rcs, rcd, rno, rsw, Value.category, List.filter, List.take, List.drop, List.reverse, List.reverseAux, List.cons_append, List.nil_append, Option.toList, Int.toNat, Int.reduceToNat, if_pos, if_neg, reduceIte, ↓reduceIte, Nat.reduceAdd, Nat.reduceEqDiff, Nat.reduceBEq, beq_self_eq_true, Bool.not_true, Bool.not_false, Bool.and_true, Bool.and_false, Bool.true_and, Bool.false_and, gI_sI, gI_sL, gI_sA, gI_sM, gL_sI, gL_sL, gL_sA, gL_sM, aI_sI, aI_sL, aI_sA, aI_sM, aL_sI, aL_sL, aL_sA, aL_sM, gI_em, gI_emx, gI_pu, gI_wh, Bcomplete_0, Bcomplete_12, Bcomplete_16, Bcomplete_17, Bcomplete_18, Bcomplete_22, Bcomplete_40, Bcomplete_45, Bcomplete_46, Bcomplete_82, Bcomplete_160, Bcomplete_217, Bcomplete_229, Bcomplete_233, Bcomplete_234, Bcomplete_238, oi_0, oi_1, oi_14, oi_17, oi_2, oi_5, oi_7, P_emitExp, P_reduce]; try dsimp only
              apply hB
              dsimp only [rgo, rfd, Bcomplete, Nat.beq, rwp, rst, lv_args, rlk, rs1, rs2, rdl, rky, rct, rcs, rcd, rno, rsw, Value.category, List.filter, List.take, List.drop, List.reverse, List.reverseAux, List.cons_append, List.nil_append, Option.toList, Int.toNat, Int.reduceToNat, if_pos, if_neg, reduceIte, ↓reduceIte, Nat.reduceAdd, Nat.reduceEqDiff, Nat.reduceBEq, beq_self_eq_true, Bool.not_true, Bool.not_false, Bool.and_true, Bool.and_false, Bool.true_and, Bool.false_and, gI_sI, gI_sL, gI_sA, gI_sM, gL_sI, gL_sL, gL_sA, gL_sM, aI_sI, aI_sL, aI_sA, aI_sM, aL_sI, aL_sL, aL_sA, aL_sM, gI_em, gI_emx, gI_pu, gI_wh, Bcomplete_0, Bcomplete_12, Bcomplete_16, Bcomplete_17, Bcomplete_18, Bcomplete_22, Bcomplete_40, Bcomplete_45, Bcomplete_46, Bcomplete_82, Bcomplete_160, Bcomplete_217, Bcomplete_229, Bcomplete_233, Bcomplete_234, Bcomplete_238, oi_0, oi_1, oi_14, oi_17, oi_2, oi_5, oi_7, P_emitExp, P_reduce]; try dsimp only
              refine hW 18 [(0, .ref 1000), (1, .int 1)] _ _ _ (by simp) (ih _ ?_ _ rfl ?_ ?_ ?_ ?_ 1 ?_)
              · omega
              · intro σ0 hσ0
                exact hX1 σ0 (hX2 σ0 hσ0)
              · exact hp1.trans hp2
              · exact hF2.tr hF1
              · omega
              · exact Or.inr ⟨rfl, by lia⟩
          intro τ hn hX hp hF hle m hm
          have hx := hX σa hXa
          have nn := hx.nums
          have w1 := hx.w1
          apply hB
          dsimp only [rgo, rfd, Bcomplete, Nat.beq, rwp, rst, lv_args, rlk, rs1, rs2, rdl, rky, rct, rcs, rcd, rno, rsw, Value.category, List.filter, List.take, List.drop, List.reverse, List.reverseAux, List.cons_append, List.nil_append, Option.toList, Int.toNat, Int.reduceToNat, if_pos, if_neg, reduceIte, ↓reduceIte, Nat.reduceAdd, Nat.reduceEqDiff, Nat.reduceBEq, beq_self_eq_true, Bool.not_true, Bool.not_false, Bool.and_true, Bool.and_false, Bool.true_and, Bool.false_and, gI_sI, gI_sL, gI_sA, gI_sM, gL_sI, gL_sL, gL_sA, gL_sM, aI_sI, aI_sL, aI_sA, aI_sM, aL_sI, aL_sL, aL_sA, aL_sM, gI_em, gI_emx, gI_pu, gI_wh, Bcomplete_0, Bcomplete_12, Bcomplete_16, Bcomplete_17, Bcomplete_18, Bcomplete_22, Bcomplete_40, Bcomplete_45, Bcomplete_46, Bcomplete_82, Bcomplete_160, Bcomplete_217, Bcomplete_229, Bcomplete_233, Bcomplete_234, Bcomplete_238, oi_0, oi_1, oi_14, oi_17, oi_2, oi_5, oi_7, P_emitExp, P_reduce]; try dsimp only
          refine ⟨fun _ => ?_, fun hm1 => ?_⟩
          · apply hB
            dsimp only [rgo, rfd, Bcomplete, Nat.beq, rwp, rst, lv_args, rlk, rs1, rs2, rdl, rky, rct, rcs, rcd, rno, rsw, Value.category, List.filter, List.take, List.drop, List.reverse, List.reverseAux, List.cons_append, List.nil_append, Option.toList, Int.toNat, Int.reduceToNat, if_pos, if_neg, reduceIte, ↓reduceIte, Nat.reduceAdd, Nat.reduceEqDiff, Nat.reduceBEq, beq_self_eq_true, Bool.not_true, Bool.not_false, Bool.and_true, Bool.and_false, Bool.true_and, Bool.false_and, gI_sI, gI_sL, gI_sA, gI_sM, gL_sI, gL_sL, gL_sA, gL_sM, aI_sI, aI_sL, aI_sA, aI_sM, aL_sI, aL_sL, aL_sA, aL_sM, gI_em, gI_emx, gI_pu, gI_wh, Bcomplete_0, Bcomplete_12, Bcomplete_16, Bcomplete_17, Bcomplete_18, Bcomplete_22, Bcomplete_40, Bcomplete_45, Bcomplete_46, Bcomplete_82, Bcomplete_160, Bcomplete_217, Bcomplete_229, Bcomplete_233, Bcomplete_234, Bcomplete_238, oi_0, oi_1, oi_14, oi_17, oi_2, oi_5, oi_7, P_emitExp, P_reduce]; try dsimp only
            exact ⟨rfl, hX, hp, hF, hle⟩
          · have hop : 0 < gI τ 29 := by lia
            have hox := hx.top hop
            have hns := nT_sub hop
            unfold ox at hox
            apply hB
            dsimp only [rgo, rfd, Bcomplete, Nat.beq, rwp, rst, lv_args, rlk, rs1, rs2, rdl, rky, rct, rcs, rcd, rno, rsw, Value.category, List.filter, List.take, List.drop, List.reverse, List.reverseAux, List.cons_append, List.nil_append, Option.toList, Int.toNat, Int.reduceToNat, if_pos, if_neg, reduceIte, ↓reduceIte, Nat.reduceAdd, Nat.reduceEqDiff, Nat.reduceBEq, beq_self_eq_true, Bool.not_true, Bool.not_false, Bool.and_true, Bool.and_false, Bool.true_and, Bool.false_and, gI_sI, gI_sL, gI_sA, gI_sM, gL_sI, gL_sL, gL_sA, gL_sM, aI_sI, aI_sL, aI_sA, aI_sM, aL_sI, aL_sL, aL_sA, aL_sM, gI_em, gI_emx, gI_pu, gI_wh, Bcomplete_0, Bcomplete_12, Bcomplete_16, Bcomplete_17, Bcomplete_18, Bcomplete_22, Bcomplete_40, Bcomplete_45, Bcomplete_46, Bcomplete_82, Bcomplete_160, Bcomplete_217, Bcomplete_229, Bcomplete_233, Bcomplete_234, Bcomplete_238, oi_0, oi_1, oi_14, oi_17, oi_2, oi_5, oi_7, P_emitExp, P_reduce]; try dsimp only
            refine ⟨rfl, rfl, rfl, (in_25 (by lia) (by lia)), fun h1 => ?_, fun h1 => ?_⟩
            · apply hB
              dsimp only [rgo, rfd, Bcomplete, Nat.beq, rwp, rst, lv_args, rlk, rs1, rs2, rdl, rky, rct, rcs, rcd, rno, rsw, Value.category, List.filter, List.take, List.drop, List.reverse, List.reverseAux, List.cons_append, List.nil_append, Option.toList, Int.toNat, Int.reduceToNat, if_pos, if_neg, reduceIte, ↓reduceIte, Nat.reduceAdd, Nat.reduceEqDiff, Nat.reduceBEq, beq_self_eq_true, Bool.not_true, Bool.not_false, Bool.and_true, Bool.and_false, Bool.true_and, Bool.false_and, gI_sI, gI_sL, gI_sA, gI_sM, gL_sI, gL_sL, gL_sA, gL_sM, aI_sI, aI_sL, aI_sA, aI_sM, aL_sI, aL_sL, aL_sA, aL_sM, gI_em, gI_emx, gI_pu, gI_wh, Bcomplete_0, Bcomplete_12, Bcomplete_16, Bcomplete_17, Bcomplete_18, Bcomplete_22, Bcomplete_40, Bcomplete_45, Bcomplete_46, Bcomplete_82, Bcomplete_160, Bcomplete_217, Bcomplete_229, Bcomplete_233, Bcomplete_234, Bcomplete_238, oi_0, oi_1, oi_14, oi_17, oi_2, oi_5, oi_7, P_emitExp, P_reduce]; try dsimp only
              refine ⟨rfl, rfl, rfl, rfl, rfl, rfl, rfl, (in_27 (by lia) (by lia)), fun h2 => ?_, fun h2 => ?_⟩
              · apply hB
                dsimp only [rgo, rfd, Bcomplete, Nat.beq, rwp, rst, lv_args, rlk, rs1, rs2, rdl, rky, rct, rcs, rcd, rno, rsw, Value.category, List.filter, List.take, List.drop, List.reverse, List.reverseAux, List.cons_append, List.nil_append, Option.toList, Int.toNat, Int.reduceToNat, if_pos, if_neg, reduceIte, ↓reduceIte, Nat.reduceAdd, Nat.reduceEqDiff, Nat.reduceBEq, beq_self_eq_true, Bool.not_true, Bool.not_false, Bool.and_true, Bool.and_false, Bool.true_and, Bool.false_and, gI_sI, gI_sL, gI_sA, gI_sM, gL_sI, gL_sL, gL_sA, gL_sM, aI_sI, aI_sL, aI_sA, aI_sM, aL_sI, aL_sL, aL_sA, aL_sM, gI_em, gI_emx, gI_pu, gI_wh, Bcomplete_0, Bcomplete_12, Bcomplete_16, Bcomplete_17, Bcomplete_18, Bcomplete_22, Bcomplete_40, Bcomplete_45, Bcomplete_46, Bcomplete_82, Bcomplete_160, Bcomplete_217, Bcomplete_229, Bcomplete_233, Bcomplete_234, Bcomplete_238, oi_0, oi_1, oi_14, oi_17, oi_2, oi_5, oi_7, P_emitExp, P_reduce]; try dsimp only
                refine ⟨rfl, rfl, rfl, (in_26 (by lia) (by lia)), rfl, rfl, (by decide), (⟨by lia, by lia⟩), fun w3 τ3 hq3 => ?_⟩
                obtain ⟨rfl, rfl⟩ := hq3
                dsimp only [Option.toList, List.cons_append, List.nil_append, Nat.beq, gI_sI, gI_sL, gI_sA, gI_sM, gL_sI, gL_sL, gL_sA, gL_sM, aI_sI, aI_sL, aI_sA, aI_sM, aL_sI, aL_sL, aL_sA, aL_sM, gI_em, gI_emx, gI_pu, gI_wh]
                refine ⟨rfl, rfl, rfl, rfl, rfl, rfl, (in_30 (by lia) (by lia)), rfl, (in_21 (by lia) (by lia)), rfl, rfl, rfl, (in_30 (by lia) (by lia)), ?_⟩
                refine hW 217 [(0, .ref 1000)] _ _ _ (by simp) (step _ ?_ ?_ ?_ ?_ ?_)
                · intro σ0 hσ0
                  first
                    | contradiction
                    | exact XI.asg (hX σ0 hσ0) (aI τ 26 (gI τ 29 - 1).toNatClampNeg) (aI τ 30 (gI τ 31 - 1).toNatClampNeg) (aI τ 27 (gI τ 29 - 1).toNatClampNeg) (gI τ 32) hop ‹_› rfl ⟨by decide, by decide, by lia, by lia, by lia, by lia, True.intro, True.intro⟩ ⟨by decide, by decide⟩
                · exact hp
                · repeat (first | exact hF | exact Fx.rf | refine Fx.a ?_ rfl | refine Fx.i ?_ rfl)
                · show nT (gI τ 29 - 1) < n
                  omega
                · show nT (gI τ 29 - 1) ≤ nT (gI σ 29)
                  omega
              · have w3 := hx.w3 hop ‹_›
                apply hB
                dsimp only [rgo, rfd, Bcomplete, Nat.beq, rwp, rst, lv_args, rlk, rs1, rs2, rdl, rky, rct, rcs, rcd, rno, rsw, Value.category, List.filter, List.take, List.drop, List.reverse, List.reverseAux, List.cons_append, List.nil_append, Option.toList, Int.toNat, Int.reduceToNat, if_pos, if_neg, reduceIte, ↓reduceIte, Nat.reduceAdd, Nat.reduceEqDiff, Nat.reduceBEq, beq_self_eq_true, Bool.not_true, Bool.not_false, Bool.and_true, Bool.and_false, Bool.true_and, Bool.false_and, gI_sI, gI_sL, gI_sA, gI_sM, gL_sI, gL_sL, gL_sA, gL_sM, aI_sI, aI_sL, aI_sA, aI_sM, aL_sI, aL_sL, aL_sA, aL_sM, gI_em, gI_emx, gI_pu, gI_wh, Bcomplete_0, Bcomplete_12, Bcomplete_16, Bcomplete_17, Bcomplete_18, Bcomplete_22, Bcomplete_40, Bcomplete_45, Bcomplete_46, Bcomplete_82, Bcomplete_160, Bcomplete_217, Bcomplete_229, Bcomplete_233, Bcomplete_234, Bcomplete_238, oi_0, oi_1, oi_14, oi_17, oi_2, oi_5, oi_7, P_emitExp, P_reduce]; try dsimp only
                refine ⟨rfl, rfl, rfl, rfl, rfl, (in_30 (by lia) (by lia)), rfl, rfl, (by decide), (⟨by lia, by lia⟩), fun w4 τ4 hq4 => ?_⟩
                obtain ⟨rfl, rfl⟩ := hq4
                dsimp only [Option.toList, List.cons_append, List.nil_append, Nat.beq, gI_sI, gI_sL, gI_sA, gI_sM, gL_sI, gL_sL, gL_sA, gL_sM, aI_sI, aI_sL, aI_sA, aI_sM, aL_sI, aL_sL, aL_sA, aL_sM, gI_em, gI_emx, gI_pu, gI_wh]
                refine ⟨rfl, rfl, rfl, rfl, rfl, rfl, (in_30 (by lia) (by lia)), rfl, (in_20 (by lia) (by lia)), rfl, rfl, rfl, rfl, rfl, (in_30 (by lia) (by lia)), rfl, (in_21 (by lia) (by lia)), ?_⟩
                refine hW 217 [(0, .ref 1000)] _ _ _ (by simp) (step _ ?_ ?_ ?_ ?_ ?_)
                · intro σ0 hσ0
                  have hvf := hx.vf (x := gI τ 31 - 2 - 1) (by lia) (by lia)
                  exact XI.qx (hX σ0 hσ0) (aI τ 30 (gI τ 31 - 2).toNatClampNeg) (aI τ 30 (gI τ 31 - 2 + 1).toNatClampNeg) (aI τ 27 (gI τ 29 - 1).toNatClampNeg) (aI τ 30 (gI τ 31 - 2 - 1).toNatClampNeg) (gI τ 32) hop ‹_› ⟨by decide, by decide, by lia, by lia, by lia, by lia, True.intro, True.intro⟩ ⟨by decide, by decide⟩
                · exact hp
                · repeat (first | exact hF | exact Fx.rf | refine Fx.a ?_ rfl | refine Fx.i ?_ rfl)
                · show nT (gI τ 29 - 1) < n
                  omega
                · show nT (gI τ 29 - 1) ≤ nT (gI σ 29)
                  omega
            · apply hB
              dsimp only [rgo, rfd, Bcomplete, Nat.beq, rwp, rst, lv_args, rlk, rs1, rs2, rdl, rky, rct, rcs, rcd, rno, rsw, Value.category, List.filter, List.take, List.drop, List.reverse, List.reverseAux, List.cons_append, List.nil_append, Option.toList, Int.toNat, Int.reduceToNat, if_pos, if_neg, reduceIte, ↓reduceIte, Nat.reduceAdd, Nat.reduceEqDiff, Nat.reduceBEq, beq_self_eq_true, Bool.not_true, Bool.not_false, Bool.and_true, Bool.and_false, Bool.true_and, Bool.false_and, gI_sI, gI_sL, gI_sA, gI_sM, gL_sI, gL_sL, gL_sA, gL_sM, aI_sI, aI_sL, aI_sA, aI_sM, aL_sI, aL_sL, aL_sA, aL_sM, gI_em, gI_emx, gI_pu, gI_wh, Bcomplete_0, Bcomplete_12, Bcomplete_16, Bcomplete_17, Bcomplete_18, Bcomplete_22, Bcomplete_40, Bcomplete_45, Bcomplete_46, Bcomplete_82, Bcomplete_160, Bcomplete_217, Bcomplete_229, Bcomplete_233, Bcomplete_234, Bcomplete_238, oi_0, oi_1, oi_14, oi_17, oi_2, oi_5, oi_7, P_emitExp, P_reduce]; try dsimp only
              refine ⟨fun h5 => ?_, fun h5 => ?_⟩
              · apply hB
                dsimp only [rgo, rfd, Bcomplete, Nat.beq, rwp, rst, lv_args, rlk, rs1, rs2, rdl, rky, rct, rcs, rcd, rno, rsw, Value.category, List.filter, List.take, List.drop, List.reverse, List.reverseAux, List.cons_append, List.nil_append, Option.toList, Int.toNat, Int.reduceToNat, if_pos, if_neg, reduceIte, ↓reduceIte, Nat.reduceAdd, Nat.reduceEqDiff, Nat.reduceBEq, beq_self_eq_true, Bool.not_true, Bool.not_false, Bool.and_true, Bool.and_false, Bool.true_and, Bool.false_and, gI_sI, gI_sL, gI_sA, gI_sM, gL_sI, gL_sL, gL_sA, gL_sM, aI_sI, aI_sL, aI_sA, aI_sM, aL_sI, aL_sL, aL_sA, aL_sM, gI_em, gI_emx, gI_pu, gI_wh, Bcomplete_0, Bcomplete_12, Bcomplete_16, Bcomplete_17, Bcomplete_18, Bcomplete_22, Bcomplete_40, Bcomplete_45, Bcomplete_46, Bcomplete_82, Bcomplete_160, Bcomplete_217, Bcomplete_229, Bcomplete_233, Bcomplete_234, Bcomplete_238, oi_0, oi_1, oi_14, oi_17, oi_2, oi_5, oi_7, P_emitExp, P_reduce]; try dsimp only
                refine ⟨rfl, rfl, rfl, rfl, rfl, rfl, rfl, (in_27 (by lia) (by lia)), fun h6 => ?_, fun h6 => ?_⟩
                · apply hB
                  dsimp only [rgo, rfd, Bcomplete, Nat.beq, rwp, rst, lv_args, rlk, rs1, rs2, rdl, rky, rct, rcs, rcd, rno, rsw, Value.category, List.filter, List.take, List.drop, List.reverse, List.reverseAux, List.cons_append, List.nil_append, Option.toList, Int.toNat, Int.reduceToNat, if_pos, if_neg, reduceIte, ↓reduceIte, Nat.reduceAdd, Nat.reduceEqDiff, Nat.reduceBEq, beq_self_eq_true, Bool.not_true, Bool.not_false, Bool.and_true, Bool.and_false, Bool.true_and, Bool.false_and, gI_sI, gI_sL, gI_sA, gI_sM, gL_sI, gL_sL, gL_sA, gL_sM, aI_sI, aI_sL, aI_sA, aI_sM, aL_sI, aL_sL, aL_sA, aL_sM, gI_em, gI_emx, gI_pu, gI_wh, Bcomplete_0, Bcomplete_12, Bcomplete_16, Bcomplete_17, Bcomplete_18, Bcomplete_22, Bcomplete_40, Bcomplete_45, Bcomplete_46, Bcomplete_82, Bcomplete_160, Bcomplete_217, Bcomplete_229, Bcomplete_233, Bcomplete_234, Bcomplete_238, oi_0, oi_1, oi_14, oi_17, oi_2, oi_5, oi_7, P_emitExp, P_reduce]; try dsimp only
                  refine ⟨rfl, rfl, rfl, (in_26 (by lia) (by lia)), rfl, rfl, (by decide), (⟨by lia, by lia⟩), fun w7 τ7 hq7 => ?_⟩
                  obtain ⟨rfl, rfl⟩ := hq7
                  dsimp only [Option.toList, List.cons_append, List.nil_append, Nat.beq, gI_sI, gI_sL, gI_sA, gI_sM, gL_sI, gL_sL, gL_sA, gL_sM, aI_sI, aI_sL, aI_sA, aI_sM, aL_sI, aL_sL, aL_sA, aL_sM, gI_em, gI_emx, gI_pu, gI_wh]
                  refine ⟨rfl, rfl, rfl, rfl, rfl, rfl, (in_30 (by lia) (by lia)), rfl, (in_21 (by lia) (by lia)), rfl, rfl, rfl, (in_30 (by lia) (by lia)), ?_⟩
                  refine hW 217 [(0, .ref 1000)] _ _ _ (by simp) (step _ ?_ ?_ ?_ ?_ ?_)
                  · intro σ0 hσ0
                    first
                      | contradiction
                      | exact XI.asg (hX σ0 hσ0) (aI τ 26 (gI τ 29 - 1).toNatClampNeg) (aI τ 30 (gI τ 31 - 1).toNatClampNeg) (aI τ 27 (gI τ 29 - 1).toNatClampNeg) (gI τ 32) hop ‹_› rfl ⟨by decide, by decide, by lia, by lia, by lia, by lia, True.intro, True.intro⟩ ⟨by decide, by decide⟩
                  · exact hp
                  · repeat (first | exact hF | exact Fx.rf | refine Fx.a ?_ rfl | refine Fx.i ?_ rfl)
                  · show nT (gI τ 29 - 1) < n
                    omega
                  · show nT (gI τ 29 - 1) ≤ nT (gI σ 29)
                    omega
                · have w3 := hx.w3 hop ‹_›
                  apply hB
                  dsimp only [rgo, rfd, Bcomplete, Nat.beq, rwp, rst, lv_args, rlk, rs1, rs2, rdl, rky, rct, rcs, rcd, rno, rsw, Value.category, List.filter, List.take, List.drop, List.reverse, List.reverseAux, List.cons_append, List.nil_append, Option.toList, Int.toNat, Int.reduceToNat, if_pos, if_neg, reduceIte, ↓reduceIte, Nat.reduceAdd, Nat.reduceEqDiff, Nat.reduceBEq, beq_self_eq_true, Bool.not_true, Bool.not_false, Bool.and_true, Bool.and_false, Bool.true_and, Bool.false_and, gI_sI, gI_sL, gI_sA, gI_sM, gL_sI, gL_sL, gL_sA, gL_sM, aI_sI, aI_sL, aI_sA, aI_sM, aL_sI, aL_sL, aL_sA, aL_sM, gI_em, gI_emx, gI_pu, gI_wh, Bcomplete_0, Bcomplete_12, Bcomplete_16, Bcomplete_17, Bcomplete_18, Bcomplete_22, Bcomplete_40, Bcomplete_45, Bcomplete_46, Bcomplete_82, Bcomplete_160, Bcomplete_217, Bcomplete_229, Bcomplete_233, Bcomplete_234, Bcomplete_238, oi_0, oi_1, oi_14, oi_17, oi_2, oi_5, oi_7, P_emitExp, P_reduce]; try dsimp only
                  refine ⟨rfl, rfl, rfl, rfl, rfl, (in_30 (by lia) (by lia)), rfl, rfl, (by decide), (⟨by lia, by lia⟩), fun w8 τ8 hq8 => ?_⟩
                  obtain ⟨rfl, rfl⟩ := hq8
                  dsimp only [Option.toList, List.cons_append, List.nil_append, Nat.beq, gI_sI, gI_sL, gI_sA, gI_sM, gL_sI, gL_sL, gL_sA, gL_sM, aI_sI, aI_sL, aI_sA, aI_sM, aL_sI, aL_sL, aL_sA, aL_sM, gI_em, gI_emx, gI_pu, gI_wh]
                  refine ⟨rfl, rfl, rfl, rfl, rfl, rfl, (in_30 (by lia) (by lia)), rfl, (in_20 (by lia) (by lia)), rfl, rfl, rfl, rfl, rfl, (in_30 (by lia) (by lia)), rfl, (in_21 (by lia) (by lia)), ?_⟩
                  refine hW 217 [(0, .ref 1000)] _ _ _ (by simp) (step _ ?_ ?_ ?_ ?_ ?_)
                  · intro σ0 hσ0
                    have hvf := hx.vf (x := gI τ 31 - 2 - 1) (by lia) (by lia)
                    exact XI.qx (hX σ0 hσ0) (aI τ 30 (gI τ 31 - 2).toNatClampNeg) (aI τ 30 (gI τ 31 - 2 + 1).toNatClampNeg) (aI τ 27 (gI τ 29 - 1).toNatClampNeg) (aI τ 30 (gI τ 31 - 2 - 1).toNatClampNeg) (gI τ 32) hop ‹_› ⟨by decide, by decide, by lia, by lia, by lia, by lia, True.intro, True.intro⟩ ⟨by decide, by decide⟩
                  · exact hp
                  · repeat (first | exact hF | exact Fx.rf | refine Fx.a ?_ rfl | refine Fx.i ?_ rfl)
                  · show nT (gI τ 29 - 1) < n
                    omega
                  · show nT (gI τ 29 - 1) ≤ nT (gI σ 29)
                    omega
              · apply hB
                dsimp only [rgo, rfd, Bcomplete, Nat.beq, rwp, rst, lv_args, rlk, rs1, rs2, rdl, rky, rct, rcs, rcd, rno, rsw, Value.category, List.filter, List.take, List.drop, List.reverse, List.reverseAux, List.cons_append, List.nil_append, Option.toList, Int.toNat, Int.reduceToNat, if_pos, if_neg, reduceIte, ↓reduceIte, Nat.reduceAdd, Nat.reduceEqDiff, Nat.reduceBEq, beq_self_eq_true, Bool.not_true, Bool.not_false, Bool.and_true, Bool.and_false, Bool.true_and, Bool.false_and, gI_sI, gI_sL, gI_sA, gI_sM, gL_sI, gL_sL, gL_sA, gL_sM, aI_sI, aI_sL, aI_sA, aI_sM, aL_sI, aL_sL, aL_sA, aL_sM, gI_em, gI_emx, gI_pu, gI_wh, Bcomplete_0, Bcomplete_12, Bcomplete_16, Bcomplete_17, Bcomplete_18, Bcomplete_22, Bcomplete_40, Bcomplete_45, Bcomplete_46, Bcomplete_82, Bcomplete_160, Bcomplete_217, Bcomplete_229, Bcomplete_233, Bcomplete_234, Bcomplete_238, oi_0, oi_1, oi_14, oi_17, oi_2, oi_5, oi_7, P_emitExp, P_reduce]; try dsimp only
                exact ⟨rfl, hX, hp, hF, hle⟩
      apply hB
      dsimp only [rgo, rfd, Bcomplete, Nat.beq, rwp, rst, lv_args, rlk, rs1, rs2, rdl, rky, rct, rcs, rcd, rno, rsw, Value.category, List.filter, List.take, List.drop, List.reverse, List.reverseAux, List.cons_append, List.nil_append, Option.toList, Int.toNat, Int.reduceToNat, if_pos, if_neg, reduceIte, ↓reduceIte, Nat.reduceAdd, Nat.reduceEqDiff, Nat.reduceBEq, beq_self_eq_true, Bool.not_true, Bool.not_false, Bool.and_true, Bool.and_false, Bool.true_and, Bool.false_and, gI_sI, gI_sL, gI_sA, gI_sM, gL_sI, gL_sL, gL_sA, gL_sM, aI_sI, aI_sL, aI_sA, aI_sM, aL_sI, aL_sL, aL_sA, aL_sM, gI_em, gI_emx, gI_pu, gI_wh, Bcomplete_0, Bcomplete_12, Bcomplete_16, Bcomplete_17, Bcomplete_18, Bcomplete_22, Bcomplete_40, Bcomplete_45, Bcomplete_46, Bcomplete_82, Bcomplete_160, Bcomplete_217, Bcomplete_229, Bcomplete_233, Bcomplete_234, Bcomplete_238, oi_0, oi_1, oi_14, oi_17, oi_2, oi_5, oi_7, P_emitExp, P_reduce]; try dsimp only
      refine ⟨rfl, (by decide), (⟨σa, hXa⟩), fun w1 τ1 hq1 => ?_⟩
      obtain ⟨rfl, hX1, hp1, hF1, hl1⟩ := hq1
      dsimp only [Option.toList, List.cons_append, List.nil_append, Nat.beq, gI_sI, gI_sL, gI_sA, gI_sM, gL_sI, gL_sL, gL_sA, gL_sM, aI_sI, aI_sL, aI_sA, aI_sM, aL_sI, aL_sL, aL_sA, aL_sM, gI_em, gI_emx, gI_pu, gI_wh]
      refine ⟨rfl, fun h2 => ?_, fun h2 => ?_⟩
      · apply hB
        dsimp only [rgo, rfd, Bcomplete, Nat.beq, rwp, rst, lv_args, rlk, rs1, rs2, rdl, rky, rct, rcs, rcd, rno, rsw, Value.category, List.filter, List.take, List.drop, List.reverse, List.reverseAux, List.cons_append, List.nil_append, Option.toList, Int.toNat, Int.reduceToNat, if_pos, if_neg, reduceIte, ↓reduceIte, Nat.reduceAdd, Nat.reduceEqDiff, Nat.reduceBEq, beq_self_eq_true, Bool.not_true, Bool.not_false, Bool.and_true, Bool.and_false, Bool.true_and, Bool.false_and, gI_sI, gI_sL, gI_sA, gI_sM, gL_sI, gL_sL, gL_sA, gL_sM, aI_sI, aI_sL, aI_sA, aI_sM, aL_sI, aL_sL, aL_sA, aL_sM, gI_em, gI_emx, gI_pu, gI_wh, Bcomplete_0, Bcomplete_12, Bcomplete_16, Bcomplete_17, Bcomplete_18, Bcomplete_22, Bcomplete_40, Bcomplete_45, Bcomplete_46, Bcomplete_82, Bcomplete_160, Bcomplete_217, Bcomplete_229, Bcomplete_233, Bcomplete_234, Bcomplete_238, oi_0, oi_1, oi_14, oi_17, oi_2, oi_5, oi_7, P_emitExp, P_reduce]; try dsimp only
        apply hB
        dsimp only [rgo, rfd, Bcomplete, Nat.beq, rwp, rst, lv_args, rlk, rs1, rs2, rdl, rky, rct, rcs, rcd, rno, rsw, Value.category, List.filter, List.take, List.drop, List.reverse, List.reverseAux, List.cons_append, List.nil_append, Option.toList, Int.toNat, Int.reduceToNat, if_pos, if_neg, reduceIte, ↓reduceIte, Nat.reduceAdd, Nat.reduceEqDiff, Nat.reduceBEq, beq_self_eq_true, Bool.not_true, Bool.not_false, Bool.and_true, Bool.and_false, Bool.true_and, Bool.false_and, gI_sI, gI_sL, gI_sA, gI_sM, gL_sI, gL_sL, gL_sA, gL_sM, aI_sI, aI_sL, aI_sA, aI_sM, aL_sI, aL_sL, aL_sA, aL_sM, gI_em, gI_emx, gI_pu, gI_wh, Bcomplete_0, Bcomplete_12, Bcomplete_16, Bcomplete_17, Bcomplete_18, Bcomplete_22, Bcomplete_40, Bcomplete_45, Bcomplete_46, Bcomplete_82, Bcomplete_160, Bcomplete_217, Bcomplete_229, Bcomplete_233, Bcomplete_234, Bcomplete_238, oi_0, oi_1, oi_14, oi_17, oi_2, oi_5, oi_7, P_emitExp, P_reduce]; try dsimp only
        exact hW 18 [(0, .ref 1000), (1, .int 0)] _ _ _ (by simp) (loop _ _ rfl hX1 hp1 hF1 hl1 0 (Or.inl rfl))
      · apply hB
        dsimp only [rgo, rfd, Bcomplete, Nat.beq, rwp, rst, lv_args, rlk, rs1, rs2, rdl, rky, rct, rcs, rcd, rno, rsw, Value.category, List.filter, List.take, List.drop, List.reverse, List.reverseAux, List.cons_append, List.nil_append, Option.toList, Int.toNat, Int.reduceToNat, if_pos, if_neg, reduceIte, ↓reduceIte, Nat.reduceAdd, Nat.reduceEqDiff, Nat.reduceBEq, beq_self_eq_true, Bool.not_true, Bool.not_false, Bool.and_true, Bool.and_false, Bool.true_and, Bool.false_and, gI_sI, gI_sL, gI_sA, gI_sM, gL_sI, gL_sL, gL_sA, gL_sM, aI_sI, aI_sL, aI_sA, aI_sM, aL_sI, aL_sL, aL_sA, aL_sM, gI_em, gI_emx, gI_pu, gI_wh, Bcomplete_0, Bcomplete_12, Bcomplete_16, Bcomplete_17, Bcomplete_18, Bcomplete_22, Bcomplete_40, Bcomplete_45, Bcomplete_46, Bcomplete_82, Bcomplete_160, Bcomplete_217, Bcomplete_229, Bcomplete_233, Bcomplete_234, Bcomplete_238, oi_0, oi_1, oi_14, oi_17, oi_2, oi_5, oi_7, P_emitExp, P_reduce]; try dsimp only
        apply hB
        dsimp only [rgo, rfd, Bcomplete, Nat.beq, rwp, rst, lv_args, rlk, rs1, rs2, rdl, rky, rct, rcs, rcd, rno, rsw, Value.category, List.filter, List.take, List.drop, List.reverse, List.reverseAux, List.cons_append, List.nil_append, Option.toList, Int.toNat, Int.reduceToNat, if_pos, if_neg, reduceIte, ↓reduceIte, Nat.reduceAdd, Nat.reduceEqDiff, Nat.reduceBEq, beq_self_eq_true, Bool.not_true, Bool.not_false, Bool.and_true, Bool.and_false, Bool.true_and, Bool.false_and, gI_sI, gI_sL, gI_sA, gI_sM, gL_sI, gL_sL, gL_sA, gL_sM, aI_sI, aI_sL, aI_sA, aI_sM, aL_sI, aL_sL, aL_sA, aL_sM, gI_em, gI_emx, gI_pu, gI_wh, Bcomplete_0, Bcomplete_12, Bcomplete_16, Bcomplete_17, Bcomplete_18, Bcomplete_22, Bcomplete_40, Bcomplete_45, Bcomplete_46, Bcomplete_82, Bcomplete_160, Bcomplete_217, Bcomplete_229, Bcomplete_233, Bcomplete_234, Bcomplete_238, oi_0, oi_1, oi_14, oi_17, oi_2, oi_5, oi_7, P_emitExp, P_reduce]; try dsimp only
        exact hW 18 [(0, .ref 1000), (1, .int 1)] _ _ _ (by simp) (loop _ _ rfl hX1 hp1 hF1 hl1 1 (Or.inr ⟨rfl, by lia⟩))
    next => exact hP.elim
theorem m_complete (l : Launch) : RMet l 4 33 P_complete Q_complete := by
  refine RMet.by Bcomplete [(21, P_emitExp, Q_emitExp), (32, P_reduce, Q_reduce)] rocomplete okBcomplete (ctc (m_emitExp l) (by decide) (ctc (m_reduce l) (by decide) ct0)) ?_ b_complete
  · intro As σ hP
    unfold P_complete at hP
    split at hP
    next => exact Nat.le_of_ble_eq_true rfl
    next => exact hP.elim
set_option maxRecDepth 100000 in
theorem e_complete (l : Launch) : RMetE l 4 33 P_complete Q_complete := by
  refine RMetE.by Bcomplete [(21, P_emitExp, Q_emitExp), (32, P_reduce, Q_reduce)] rfl rfl rocomplete okBcomplete (ctEc (e_emitExp l) (by decide) (ctEc (e_reduce l) (by decide) ctE0)) ?_ b_complete
  · intro As σ hP
    unfold P_complete at hP
    split at hP
    next => exact Nat.le_of_ble_eq_true rfl
    next => exact hP.elim
