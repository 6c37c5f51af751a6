def P_doOf : RP := fun As σ => match As with
  | [] => ∃ mn k j, PI σ [] (FF σ, mn) k j ∧ k ≤ 12 ∧ 1 ≤ j ∧ MF σ
  | _ => False
def Q_doOf : RQ := fun As σ w τ => match As with
  | [] => ∃ r : Int32, w = some (.int r) ∧ ((r = 0 ∧ Fp σ τ) ∨ (r = 1 ∧ Fp σ τ ∧ (∀ mn k j, PI σ [] (FF σ, mn) k j → k ≤ 12 → 1 ≤ j → PI τ [] (FF τ, mn) k j) ∧ MF τ ∧ (gI σ 14) < (gI τ 14)))
  | _ => False
set_option maxRecDepth 100000 in
set_option maxHeartbeats 4000000 in
theorem b_doOf : Bod BdoOf [(20, P_emit, Q_emit), (36, P_open, Q_open), (17, P_take, Q_take), (35, P_thing, Q_thing)] P_doOf Q_doOf := by
  · intro As σ hP G hB hW
    unfold P_doOf at hP
    split at hP
    next => 
      unfold Q_doOf at hB
      dsimp only at hB
      obtain ⟨mm, kk, jj, hPJ, hkk, hjj, hMF⟩ := hP
      have nn := PI.nums hPJ
      apply hB
      dsimp only [rgo, rfd, BdoOf, Nat.beq, rwp, rst, lv_args, rlk, rs1, rs2, rdl, rky, rct, rcs, rcd, rno, rsw, Value.category, List.filter, List.take, List.drop, List.reverse, List.reverseAux, List.cons_append, List.nil_append, Option.toList, Int.toNat, Int.reduceToNat, if_pos, if_neg, reduceIte, ↓reduceIte, Nat.reduceAdd, Nat.reduceEqDiff, Nat.reduceBEq, beq_self_eq_true, Bool.not_true, Bool.not_false, Bool.and_true, Bool.and_false, Bool.true_and, Bool.false_and, gI_sI, gI_sL, gI_sA, gI_sM, gL_sI, gL_sL, gL_sA, gL_sM, aI_sI, aI_sL, aI_sA, aI_sM, aL_sI, aL_sL, aL_sA, aL_sM, gI_em, gI_emx, gI_pu, gI_wh, gI_th, aI_em37, aI_em38, aI_em39, aI_em40, aI_em41, aI_em43, aI_em44, aI_em45, aI_em46, aI_em47, aI_em48, aI_em50, aI_em51, aI_em52, aI_em53, aI_em54, aI_em55, aI_em56, aI_em57, aI_em58, aI_em59, aI_em60, aI_em61, aI_em63, aI_em64, aI_em65, BdoOf_0, BdoOf_37, BdoOf_47, BdoOf_51, BdoOf_52, oi_0, oi_1, oi_20, oi_29, oi_5, P_emit, P_open, P_take, P_thing]; try dsimp only
      refine ⟨rfl, rfl, (by decide), (⟨by lia, by lia⟩), fun w1 τ1 hq1 => ?_⟩
      obtain ⟨rfl, rfl⟩ := hq1
      dsimp only [Option.toList, List.cons_append, List.nil_append, Nat.beq, gI_sI, gI_sL, gI_sA, gI_sM, gL_sI, gL_sL, gL_sA, gL_sM, aI_sI, aI_sL, aI_sA, aI_sM, aL_sI, aL_sL, aL_sA, aL_sM, gI_em, gI_emx, gI_pu, gI_wh, gI_th, aI_em37, aI_em38, aI_em39, aI_em40, aI_em41, aI_em43, aI_em44, aI_em45, aI_em46, aI_em47, aI_em48, aI_em50, aI_em51, aI_em52, aI_em53, aI_em54, aI_em55, aI_em56, aI_em57, aI_em58, aI_em59, aI_em60, aI_em61, aI_em63, aI_em64, aI_em65]
      refine ⟨rfl, (by decide), (⟨by lia, by lia⟩), fun w2 τ2 hq2 => ?_⟩
      obtain ⟨rfl, rfl⟩ := hq2
      dsimp only [Option.toList, List.cons_append, List.nil_append, Nat.beq, gI_sI, gI_sL, gI_sA, gI_sM, gL_sI, gL_sL, gL_sA, gL_sM, aI_sI, aI_sL, aI_sA, aI_sM, aL_sI, aL_sL, aL_sA, aL_sM, gI_em, gI_emx, gI_pu, gI_wh, gI_th, aI_em37, aI_em38, aI_em39, aI_em40, aI_em41, aI_em43, aI_em44, aI_em45, aI_em46, aI_em47, aI_em48, aI_em50, aI_em51, aI_em52, aI_em53, aI_em54, aI_em55, aI_em56, aI_em57, aI_em58, aI_em59, aI_em60, aI_em61, aI_em63, aI_em64, aI_em65]
      refine ⟨rfl, (by decide), (⟨by lia, by lia⟩), fun w3 τ3 hq3 => ?_⟩
      obtain ⟨rfl, rfl⟩ := hq3
      dsimp only [Option.toList, List.cons_append, List.nil_append, Nat.beq, gI_sI, gI_sL, gI_sA, gI_sM, gL_sI, gL_sL, gL_sA, gL_sM, aI_sI, aI_sL, aI_sA, aI_sM, aL_sI, aL_sL, aL_sA, aL_sM, gI_em, gI_emx, gI_pu, gI_wh, gI_th, aI_em37, aI_em38, aI_em39, aI_em40, aI_em41, aI_em43, aI_em44, aI_em45, aI_em46, aI_em47, aI_em48, aI_em50, aI_em51, aI_em52, aI_em53, aI_em54, aI_em55, aI_em56, aI_em57, aI_em58, aI_em59, aI_em60, aI_em61, aI_em63, aI_em64, aI_em65]
      refine ⟨rfl, (by decide), (⟨by lia, by lia⟩), fun w4 τ4 hq4 => ?_⟩
      obtain ⟨r4, rfl, hq4⟩ := hq4
      rcases hq4 with ⟨rfl, hp4, rfl⟩ | ⟨rfl, fa4, fb4, rfl⟩
      · dsimp only [Option.toList, List.cons_append, List.nil_append, Nat.beq, gI_sI, gI_sL, gI_sA, gI_sM, gL_sI, gL_sL, gL_sA, gL_sM, aI_sI, aI_sL, aI_sA, aI_sM, aL_sI, aL_sL, aL_sA, aL_sM, gI_em, gI_emx, gI_pu, gI_wh, gI_th, aI_em37, aI_em38, aI_em39, aI_em40, aI_em41, aI_em43, aI_em44, aI_em45, aI_em46, aI_em47, aI_em48, aI_em50, aI_em51, aI_em52, aI_em53, aI_em54, aI_em55, aI_em56, aI_em57, aI_em58, aI_em59, aI_em60, aI_em61, aI_em63, aI_em64, aI_em65]
        try dsimp only [Option.toList, List.cons_append, List.nil_append, Nat.beq, gI_sI, gI_sL, gI_sA, gI_sM, gL_sI, gL_sL, gL_sA, gL_sM, aI_sI, aI_sL, aI_sA, aI_sM, aL_sI, aL_sL, aL_sA, aL_sM, gI_em, gI_emx, gI_pu, gI_wh, gI_th, aI_em37, aI_em38, aI_em39, aI_em40, aI_em41, aI_em43, aI_em44, aI_em45, aI_em46, aI_em47, aI_em48, aI_em50, aI_em51, aI_em52, aI_em53, aI_em54, aI_em55, aI_em56, aI_em57, aI_em58, aI_em59, aI_em60, aI_em61, aI_em63, aI_em64, aI_em65] at hp4
        refine ⟨fun h5 => absurd h5 (by decide), fun h5 => ?_⟩
        clear h5
        apply hB
        dsimp only [rgo, rfd, BdoOf, Nat.beq, rwp, rst, lv_args, rlk, rs1, rs2, rdl, rky, rct, rcs, rcd, rno, rsw, Value.category, List.filter, List.take, List.drop, List.reverse, List.reverseAux, List.cons_append, List.nil_append, Option.toList, Int.toNat, Int.reduceToNat, if_pos, if_neg, reduceIte, ↓reduceIte, Nat.reduceAdd, Nat.reduceEqDiff, Nat.reduceBEq, beq_self_eq_true, Bool.not_true, Bool.not_false, Bool.and_true, Bool.and_false, Bool.true_and, Bool.false_and, gI_sI, gI_sL, gI_sA, gI_sM, gL_sI, gL_sL, gL_sA, gL_sM, aI_sI, aI_sL, aI_sA, aI_sM, aL_sI, aL_sL, aL_sA, aL_sM, gI_em, gI_emx, gI_pu, gI_wh, gI_th, aI_em37, aI_em38, aI_em39, aI_em40, aI_em41, aI_em43, aI_em44, aI_em45, aI_em46, aI_em47, aI_em48, aI_em50, aI_em51, aI_em52, aI_em53, aI_em54, aI_em55, aI_em56, aI_em57, aI_em58, aI_em59, aI_em60, aI_em61, aI_em63, aI_em64, aI_em65, BdoOf_0, BdoOf_37, BdoOf_47, BdoOf_51, BdoOf_52, oi_0, oi_1, oi_20, oi_29, oi_5, P_emit, P_open, P_take, P_thing]; try dsimp only
        refine ⟨rfl, (by decide), (⟨⟨by lia, by lia⟩, ⟨by lia, by lia⟩, ⟨by lia, by lia⟩⟩), fun w6 τ6 hq6 => ?_⟩
        obtain ⟨r6, rfl, hq6⟩ := hq6
        rcases hq6 with ⟨rfl, hd6, rfl⟩ | ⟨rfl, hf6⟩
        · dsimp only [Option.toList, List.cons_append, List.nil_append, Nat.beq, gI_sI, gI_sL, gI_sA, gI_sM, gL_sI, gL_sL, gL_sA, gL_sM, aI_sI, aI_sL, aI_sA, aI_sM, aL_sI, aL_sL, aL_sA, aL_sM, gI_em, gI_emx, gI_pu, gI_wh, gI_th, aI_em37, aI_em38, aI_em39, aI_em40, aI_em41, aI_em43, aI_em44, aI_em45, aI_em46, aI_em47, aI_em48, aI_em50, aI_em51, aI_em52, aI_em53, aI_em54, aI_em55, aI_em56, aI_em57, aI_em58, aI_em59, aI_em60, aI_em61, aI_em63, aI_em64, aI_em65]
          refine ⟨fun h7 => absurd h7 (by decide), fun h7 => ?_⟩
          clear h7
          apply hB
          dsimp only [rgo, rfd, BdoOf, Nat.beq, rwp, rst, lv_args, rlk, rs1, rs2, rdl, rky, rct, rcs, rcd, rno, rsw, Value.category, List.filter, List.take, List.drop, List.reverse, List.reverseAux, List.cons_append, List.nil_append, Option.toList, Int.toNat, Int.reduceToNat, if_pos, if_neg, reduceIte, ↓reduceIte, Nat.reduceAdd, Nat.reduceEqDiff, Nat.reduceBEq, beq_self_eq_true, Bool.not_true, Bool.not_false, Bool.and_true, Bool.and_false, Bool.true_and, Bool.false_and, gI_sI, gI_sL, gI_sA, gI_sM, gL_sI, gL_sL, gL_sA, gL_sM, aI_sI, aI_sL, aI_sA, aI_sM, aL_sI, aL_sL, aL_sA, aL_sM, gI_em, gI_emx, gI_pu, gI_wh, gI_th, aI_em37, aI_em38, aI_em39, aI_em40, aI_em41, aI_em43, aI_em44, aI_em45, aI_em46, aI_em47, aI_em48, aI_em50, aI_em51, aI_em52, aI_em53, aI_em54, aI_em55, aI_em56, aI_em57, aI_em58, aI_em59, aI_em60, aI_em61, aI_em63, aI_em64, aI_em65, BdoOf_0, BdoOf_37, BdoOf_47, BdoOf_51, BdoOf_52, oi_0, oi_1, oi_20, oi_29, oi_5, P_emit, P_open, P_take, P_thing]; try dsimp only
          apply hB
          dsimp only [rgo, rfd, BdoOf, Nat.beq, rwp, rst, lv_args, rlk, rs1, rs2, rdl, rky, rct, rcs, rcd, rno, rsw, Value.category, List.filter, List.take, List.drop, List.reverse, List.reverseAux, List.cons_append, List.nil_append, Option.toList, Int.toNat, Int.reduceToNat, if_pos, if_neg, reduceIte, ↓reduceIte, Nat.reduceAdd, Nat.reduceEqDiff, Nat.reduceBEq, beq_self_eq_true, Bool.not_true, Bool.not_false, Bool.and_true, Bool.and_false, Bool.true_and, Bool.false_and, gI_sI, gI_sL, gI_sA, gI_sM, gL_sI, gL_sL, gL_sA, gL_sM, aI_sI, aI_sL, aI_sA, aI_sM, aL_sI, aL_sL, aL_sA, aL_sM, gI_em, gI_emx, gI_pu, gI_wh, gI_th, aI_em37, aI_em38, aI_em39, aI_em40, aI_em41, aI_em43, aI_em44, aI_em45, aI_em46, aI_em47, aI_em48, aI_em50, aI_em51, aI_em52, aI_em53, aI_em54, aI_em55, aI_em56, aI_em57, aI_em58, aI_em59, aI_em60, aI_em61, aI_em63, aI_em64, aI_em65, BdoOf_0, BdoOf_37, BdoOf_47, BdoOf_51, BdoOf_52, oi_0, oi_1, oi_20, oi_29, oi_5, P_emit, P_open, P_take, P_thing]; try dsimp only
          refine ⟨Or.inr rfl, ?_⟩
          refine ⟨_, rfl, Or.inr ⟨rfl, by repeat (first | exact Fp.rf | (with_reducible refine Fp.vr ?_ ?_) | refine Fp.a ?_ rfl | refine Fp.i ?_ rfl | refine Fp.y ?_ rfl ⟨by lia, by lia⟩ | exact ⟨by lia, by lia⟩), ?_, ?_, ?_⟩⟩
          · intro mn k j hσ hk hj
            have b1 := hσ.step (gI σ 14) nn.1 (by omega)
            have hjt : 1 ≤ j := by omega
            have b2 := b1.thg 5 (gI σ 14) hjt (by decide) nn.1
            have b3 := b2.1.dob (gI σ 49) (gI σ 14) (b2.2) ⟨nn.2.2.2.2.1.1, by show gI σ 49 < gI σ 49 + 1; lia⟩ nn.1 (by omega) th51a th50
            have b4 := b3.take (by assumption) rfl (k + (-4)) (j + (0)) ⟨by omega, by omega⟩ ⟨by omega, by omega⟩
            have b5 := b4.fop 5 (gI σ 49) (gI σ 18) (by omega) (by assumption) (by decide) ⟨nn.2.2.2.2.1.1, by show gI σ 49 < gI σ 49 + 1; lia⟩ (fun _ => ⟨nn.2.1.1, by show gI σ 18 < gI σ 18 + 1 + 1; lia⟩)
            have b6 := b5.wk k j ⟨by omega, by omega⟩ ⟨by omega, by omega⟩
            rw [FF_fo, FF_sI (k := 14) (by omega), FF_em, FF_th, FF_em]
            · rw [fit5]
              exact b6
            · exact nn.2.2.2.2.2.1
          · refine MF.fop ?_ (by decide) ?_
            · exact MF.of hMF rfl rfl rfl
            · exact nn.2.2.2.2.2.1
          · show gI σ 14 < gI σ 14 + 1
            lia
        · dsimp only [Option.toList, List.cons_append, List.nil_append, Nat.beq, gI_sI, gI_sL, gI_sA, gI_sM, gL_sI, gL_sL, gL_sA, gL_sM, aI_sI, aI_sL, aI_sA, aI_sM, aL_sI, aL_sL, aL_sA, aL_sM, gI_em, gI_emx, gI_pu, gI_wh, gI_th, aI_em37, aI_em38, aI_em39, aI_em40, aI_em41, aI_em43, aI_em44, aI_em45, aI_em46, aI_em47, aI_em48, aI_em50, aI_em51, aI_em52, aI_em53, aI_em54, aI_em55, aI_em56, aI_em57, aI_em58, aI_em59, aI_em60, aI_em61, aI_em63, aI_em64, aI_em65]
          refine ⟨fun h8 => ?_, fun h8 => absurd h8 (by decide)⟩
          clear h8
          apply hB
          dsimp only [rgo, rfd, BdoOf, Nat.beq, rwp, rst, lv_args, rlk, rs1, rs2, rdl, rky, rct, rcs, rcd, rno, rsw, Value.category, List.filter, List.take, List.drop, List.reverse, List.reverseAux, List.cons_append, List.nil_append, Option.toList, Int.toNat, Int.reduceToNat, if_pos, if_neg, reduceIte, ↓reduceIte, Nat.reduceAdd, Nat.reduceEqDiff, Nat.reduceBEq, beq_self_eq_true, Bool.not_true, Bool.not_false, Bool.and_true, Bool.and_false, Bool.true_and, Bool.false_and, gI_sI, gI_sL, gI_sA, gI_sM, gL_sI, gL_sL, gL_sA, gL_sM, aI_sI, aI_sL, aI_sA, aI_sM, aL_sI, aL_sL, aL_sA, aL_sM, gI_em, gI_emx, gI_pu, gI_wh, gI_th, aI_em37, aI_em38, aI_em39, aI_em40, aI_em41, aI_em43, aI_em44, aI_em45, aI_em46, aI_em47, aI_em48, aI_em50, aI_em51, aI_em52, aI_em53, aI_em54, aI_em55, aI_em56, aI_em57, aI_em58, aI_em59, aI_em60, aI_em61, aI_em63, aI_em64, aI_em65, BdoOf_0, BdoOf_37, BdoOf_47, BdoOf_51, BdoOf_52, oi_0, oi_1, oi_20, oi_29, oi_5, P_emit, P_open, P_take, P_thing]; try dsimp only
          apply hB
          dsimp only [rgo, rfd, BdoOf, Nat.beq, rwp, rst, lv_args, rlk, rs1, rs2, rdl, rky, rct, rcs, rcd, rno, rsw, Value.category, List.filter, List.take, List.drop, List.reverse, List.reverseAux, List.cons_append, List.nil_append, Option.toList, Int.toNat, Int.reduceToNat, if_pos, if_neg, reduceIte, ↓reduceIte, Nat.reduceAdd, Nat.reduceEqDiff, Nat.reduceBEq, beq_self_eq_true, Bool.not_true, Bool.not_false, Bool.and_true, Bool.and_false, Bool.true_and, Bool.false_and, gI_sI, gI_sL, gI_sA, gI_sM, gL_sI, gL_sL, gL_sA, gL_sM, aI_sI, aI_sL, aI_sA, aI_sM, aL_sI, aL_sL, aL_sA, aL_sM, gI_em, gI_emx, gI_pu, gI_wh, gI_th, aI_em37, aI_em38, aI_em39, aI_em40, aI_em41, aI_em43, aI_em44, aI_em45, aI_em46, aI_em47, aI_em48, aI_em50, aI_em51, aI_em52, aI_em53, aI_em54, aI_em55, aI_em56, aI_em57, aI_em58, aI_em59, aI_em60, aI_em61, aI_em63, aI_em64, aI_em65, BdoOf_0, BdoOf_37, BdoOf_47, BdoOf_51, BdoOf_52, oi_0, oi_1, oi_20, oi_29, oi_5, P_emit, P_open, P_take, P_thing]; try dsimp only
          refine ⟨Or.inl rfl, ?_⟩
          exact ⟨_, rfl, Or.inl ⟨rfl, Fp.tr (by repeat (first | exact Fp.rf | (with_reducible refine Fp.vr ?_ ?_) | refine Fp.a ?_ rfl | refine Fp.i ?_ rfl | refine Fp.y ?_ rfl ⟨by lia, by lia⟩ | exact ⟨by lia, by lia⟩)) hf6⟩⟩
      · dsimp only [Option.toList, List.cons_append, List.nil_append, Nat.beq, gI_sI, gI_sL, gI_sA, gI_sM, gL_sI, gL_sL, gL_sA, gL_sM, aI_sI, aI_sL, aI_sA, aI_sM, aL_sI, aL_sL, aL_sA, aL_sM, gI_em, gI_emx, gI_pu, gI_wh, gI_th, aI_em37, aI_em38, aI_em39, aI_em40, aI_em41, aI_em43, aI_em44, aI_em45, aI_em46, aI_em47, aI_em48, aI_em50, aI_em51, aI_em52, aI_em53, aI_em54, aI_em55, aI_em56, aI_em57, aI_em58, aI_em59, aI_em60, aI_em61, aI_em63, aI_em64, aI_em65]
        refine ⟨fun h9 => ?_, fun h9 => absurd h9 (by decide)⟩
        clear h9
        apply hB
        dsimp only [rgo, rfd, BdoOf, Nat.beq, rwp, rst, lv_args, rlk, rs1, rs2, rdl, rky, rct, rcs, rcd, rno, rsw, Value.category, List.filter, List.take, List.drop, List.reverse, List.reverseAux, List.cons_append, List.nil_append, Option.toList, Int.toNat, Int.reduceToNat, if_pos, if_neg, reduceIte, ↓reduceIte, Nat.reduceAdd, Nat.reduceEqDiff, Nat.reduceBEq, beq_self_eq_true, Bool.not_true, Bool.not_false, Bool.and_true, Bool.and_false, Bool.true_and, Bool.false_and, gI_sI, gI_sL, gI_sA, gI_sM, gL_sI, gL_sL, gL_sA, gL_sM, aI_sI, aI_sL, aI_sA, aI_sM, aL_sI, aL_sL, aL_sA, aL_sM, gI_em, gI_emx, gI_pu, gI_wh, gI_th, aI_em37, aI_em38, aI_em39, aI_em40, aI_em41, aI_em43, aI_em44, aI_em45, aI_em46, aI_em47, aI_em48, aI_em50, aI_em51, aI_em52, aI_em53, aI_em54, aI_em55, aI_em56, aI_em57, aI_em58, aI_em59, aI_em60, aI_em61, aI_em63, aI_em64, aI_em65, BdoOf_0, BdoOf_37, BdoOf_47, BdoOf_51, BdoOf_52, oi_0, oi_1, oi_20, oi_29, oi_5, P_emit, P_open, P_take, P_thing]; try dsimp only
        apply hB
        dsimp only [rgo, rfd, BdoOf, Nat.beq, rwp, rst, lv_args, rlk, rs1, rs2, rdl, rky, rct, rcs, rcd, rno, rsw, Value.category, List.filter, List.take, List.drop, List.reverse, List.reverseAux, List.cons_append, List.nil_append, Option.toList, Int.toNat, Int.reduceToNat, if_pos, if_neg, reduceIte, ↓reduceIte, Nat.reduceAdd, Nat.reduceEqDiff, Nat.reduceBEq, beq_self_eq_true, Bool.not_true, Bool.not_false, Bool.and_true, Bool.and_false, Bool.true_and, Bool.false_and, gI_sI, gI_sL, gI_sA, gI_sM, gL_sI, gL_sL, gL_sA, gL_sM, aI_sI, aI_sL, aI_sA, aI_sM, aL_sI, aL_sL, aL_sA, aL_sM, gI_em, gI_emx, gI_pu, gI_wh, gI_th, aI_em37, aI_em38, aI_em39, aI_em40, aI_em41, aI_em43, aI_em44, aI_em45, aI_em46, aI_em47, aI_em48, aI_em50, aI_em51, aI_em52, aI_em53, aI_em54, aI_em55, aI_em56, aI_em57, aI_em58, aI_em59, aI_em60, aI_em61, aI_em63, aI_em64, aI_em65, BdoOf_0, BdoOf_37, BdoOf_47, BdoOf_51, BdoOf_52, oi_0, oi_1, oi_20, oi_29, oi_5, P_emit, P_open, P_take, P_thing]; try dsimp only
        refine ⟨Or.inl rfl, ?_⟩
        exact ⟨_, rfl, Or.inl ⟨rfl, by repeat (first | exact Fp.rf | (with_reducible refine Fp.vr ?_ ?_) | refine Fp.a ?_ rfl | refine Fp.i ?_ rfl | refine Fp.y ?_ rfl ⟨by lia, by lia⟩ | exact ⟨by lia, by lia⟩)⟩⟩
    next => exact hP.elim
theorem m_doOf (l : Launch) : RMet l 4 55 P_doOf Q_doOf := by
  refine RMet.by BdoOf [(20, P_emit, Q_emit), (36, P_open, Q_open), (17, P_take, Q_take), (35, P_thing, Q_thing)] rodoOf okBdoOf (ctc (m_emit l) (by decide) (ctc (m_open l) (by decide) (ctc (m_take l) (by decide) (ctc (m_thing l) (by decide) ct0)))) ?_ b_doOf
  · intro As σ hP
    unfold P_doOf at hP
    split at hP
    next => exact Nat.le_of_ble_eq_true rfl
    next => exact hP.elim
set_option maxRecDepth 100000 in
theorem e_doOf (l : Launch) : RMetE l 4 55 P_doOf Q_doOf := by
  refine RMetE.by BdoOf [(20, P_emit, Q_emit), (36, P_open, Q_open), (17, P_take, Q_take), (35, P_thing, Q_thing)] rfl rfl rodoOf okBdoOf (ctEc (e_emit l) (by decide) (ctEc (e_open l) (by decide) (ctEc (e_take l) (by decide) (ctEc (e_thing l) (by decide) ctE0)))) ?_ b_doOf
  · intro As σ hP
    unfold P_doOf at hP
    split at hP
    next => exact Nat.le_of_ble_eq_true rfl
    next => exact hP.elim
def P_ifOf : RP := fun As σ => match As with
  | [] => ∃ mn k j, PI σ [] (FF σ, mn) k j ∧ k ≤ 12 ∧ 1 ≤ j ∧ MF σ
  | _ => False
def Q_ifOf : RQ := fun As σ w τ => match As with
  | [] => ∃ r : Int32, w = some (.int r) ∧ ((r = 0 ∧ Fp σ τ) ∨ (r = 1 ∧ Fp σ τ ∧ (∀ mn k j, PI σ [] (FF σ, mn) k j → k ≤ 12 → 1 ≤ j → PI τ [] (FF τ, mn) k j) ∧ MF τ ∧ (gI σ 14) < (gI τ 14)))
  | _ => False
set_option maxRecDepth 100000 in
set_option maxHeartbeats 4000000 in
theorem b_ifOf : Bod BifOf [(52, P_condition, Q_condition), (20, P_emit, Q_emit), (36, P_open, Q_open), (17, P_take, Q_take), (35, P_thing, Q_thing)] P_ifOf Q_ifOf := by
  · intro As σ hP G hB hW
    unfold P_ifOf at hP
    split at hP
    next => 
      unfold Q_ifOf at hB
      dsimp only at hB
      obtain ⟨mm, kk, jj, hPJ, hkk, hjj, hMF⟩ := hP
      have nn := PI.nums hPJ
      apply hB
      dsimp only [rgo, rfd, BifOf, Nat.beq, rwp, rst, lv_args, rlk, rs1, rs2, rdl, rky, rct, rcs, rcd, rno, rsw, Value.category, List.filter, List.take, List.drop, List.reverse, List.reverseAux, List.cons_append, List.nil_append, Option.toList, Int.toNat, Int.reduceToNat, if_pos, if_neg, reduceIte, ↓reduceIte, Nat.reduceAdd, Nat.reduceEqDiff, Nat.reduceBEq, beq_self_eq_true, Bool.not_true, Bool.not_false, Bool.and_true, Bool.and_false, Bool.true_and, Bool.false_and, gI_sI, gI_sL, gI_sA, gI_sM, gL_sI, gL_sL, gL_sA, gL_sM, aI_sI, aI_sL, aI_sA, aI_sM, aL_sI, aL_sL, aL_sA, aL_sM, gI_em, gI_emx, gI_pu, gI_wh, gI_th, aI_em37, aI_em38, aI_em39, aI_em40, aI_em41, aI_em43, aI_em44, aI_em45, aI_em46, aI_em47, aI_em48, aI_em50, aI_em51, aI_em52, aI_em53, aI_em54, aI_em55, aI_em56, aI_em57, aI_em58, aI_em59, aI_em60, aI_em61, aI_em63, aI_em64, aI_em65, BifOf_0, BifOf_28, BifOf_35, BifOf_37, oi_0, oi_2, oi_20, oi_23, P_condition, P_emit, P_open, P_take, P_thing]; try dsimp only
      refine ⟨rfl, rfl, (by decide), (⟨by lia, by lia⟩), fun w1 τ1 hq1 => ?_⟩
      obtain ⟨rfl, rfl⟩ := hq1
      dsimp only [Option.toList, List.cons_append, List.nil_append, Nat.beq, gI_sI, gI_sL, gI_sA, gI_sM, gL_sI, gL_sL, gL_sA, gL_sM, aI_sI, aI_sL, aI_sA, aI_sM, aL_sI, aL_sL, aL_sA, aL_sM, gI_em, gI_emx, gI_pu, gI_wh, gI_th, aI_em37, aI_em38, aI_em39, aI_em40, aI_em41, aI_em43, aI_em44, aI_em45, aI_em46, aI_em47, aI_em48, aI_em50, aI_em51, aI_em52, aI_em53, aI_em54, aI_em55, aI_em56, aI_em57, aI_em58, aI_em59, aI_em60, aI_em61, aI_em63, aI_em64, aI_em65]
      refine ⟨rfl, (by decide), (⟨by lia, by lia⟩), fun w2 τ2 hq2 => ?_⟩
      obtain ⟨rfl, rfl⟩ := hq2
      dsimp only [Option.toList, List.cons_append, List.nil_append, Nat.beq, gI_sI, gI_sL, gI_sA, gI_sM, gL_sI, gL_sL, gL_sA, gL_sM, aI_sI, aI_sL, aI_sA, aI_sM, aL_sI, aL_sL, aL_sA, aL_sM, gI_em, gI_emx, gI_pu, gI_wh, gI_th, aI_em37, aI_em38, aI_em39, aI_em40, aI_em41, aI_em43, aI_em44, aI_em45, aI_em46, aI_em47, aI_em48, aI_em50, aI_em51, aI_em52, aI_em53, aI_em54, aI_em55, aI_em56, aI_em57, aI_em58, aI_em59, aI_em60, aI_em61, aI_em63, aI_em64, aI_em65]
      refine ⟨rfl, (by decide), (⟨by lia, by lia⟩), fun w3 τ3 hq3 => ?_⟩
      obtain ⟨r3, rfl, hq3⟩ := hq3
      rcases hq3 with ⟨rfl, hp3, rfl⟩ | ⟨rfl, fa3, fb3, rfl⟩
      · dsimp only [Option.toList, List.cons_append, List.nil_append, Nat.beq, gI_sI, gI_sL, gI_sA, gI_sM, gL_sI, gL_sL, gL_sA, gL_sM, aI_sI, aI_sL, aI_sA, aI_sM, aL_sI, aL_sL, aL_sA, aL_sM, gI_em, gI_emx, gI_pu, gI_wh, gI_th, aI_em37, aI_em38, aI_em39, aI_em40, aI_em41, aI_em43, aI_em44, aI_em45, aI_em46, aI_em47, aI_em48, aI_em50, aI_em51, aI_em52, aI_em53, aI_em54, aI_em55, aI_em56, aI_em57, aI_em58, aI_em59, aI_em60, aI_em61, aI_em63, aI_em64, aI_em65]
        try dsimp only [Option.toList, List.cons_append, List.nil_append, Nat.beq, gI_sI, gI_sL, gI_sA, gI_sM, gL_sI, gL_sL, gL_sA, gL_sM, aI_sI, aI_sL, aI_sA, aI_sM, aL_sI, aL_sL, aL_sA, aL_sM, gI_em, gI_emx, gI_pu, gI_wh, gI_th, aI_em37, aI_em38, aI_em39, aI_em40, aI_em41, aI_em43, aI_em44, aI_em45, aI_em46, aI_em47, aI_em48, aI_em50, aI_em51, aI_em52, aI_em53, aI_em54, aI_em55, aI_em56, aI_em57, aI_em58, aI_em59, aI_em60, aI_em61, aI_em63, aI_em64, aI_em65] at hp3
        have b1 := hPJ.step (gI σ 14) nn.1 (by omega)
        have hjt : 1 ≤ jj := by omega
        have b2 := b1.thg 2 (gI σ 14) hjt (by decide) nn.1
        have b3 := b2.1.take (by assumption) rfl (kk + (-5)) (jj + (0)) ⟨by omega, by omega⟩ ⟨by omega, by omega⟩
        have g := b3
        refine ⟨fun h4 => absurd h4 (by decide), fun h4 => ?_⟩
        clear h4
        apply hB
        dsimp only [rgo, rfd, BifOf, Nat.beq, rwp, rst, lv_args, rlk, rs1, rs2, rdl, rky, rct, rcs, rcd, rno, rsw, Value.category, List.filter, List.take, List.drop, List.reverse, List.reverseAux, List.cons_append, List.nil_append, Option.toList, Int.toNat, Int.reduceToNat, if_pos, if_neg, reduceIte, ↓reduceIte, Nat.reduceAdd, Nat.reduceEqDiff, Nat.reduceBEq, beq_self_eq_true, Bool.not_true, Bool.not_false, Bool.and_true, Bool.and_false, Bool.true_and, Bool.false_and, gI_sI, gI_sL, gI_sA, gI_sM, gL_sI, gL_sL, gL_sA, gL_sM, aI_sI, aI_sL, aI_sA, aI_sM, aL_sI, aL_sL, aL_sA, aL_sM, gI_em, gI_emx, gI_pu, gI_wh, gI_th, aI_em37, aI_em38, aI_em39, aI_em40, aI_em41, aI_em43, aI_em44, aI_em45, aI_em46, aI_em47, aI_em48, aI_em50, aI_em51, aI_em52, aI_em53, aI_em54, aI_em55, aI_em56, aI_em57, aI_em58, aI_em59, aI_em60, aI_em61, aI_em63, aI_em64, aI_em65, BifOf_0, BifOf_28, BifOf_35, BifOf_37, oi_0, oi_2, oi_20, oi_23, P_condition, P_emit, P_open, P_take, P_thing]; try dsimp only
        refine ⟨rfl, (by decide), (⟨_, _, _, g⟩), fun w5 τ5 hq5 => ?_⟩
        obtain ⟨r5, rfl, hq5⟩ := hq5
        rcases hq5 with ⟨rfl, hf5⟩ | ⟨rfl, hf5, hx5, hR5, hlt5, hro5⟩
        · dsimp only [Option.toList, List.cons_append, List.nil_append, Nat.beq, gI_sI, gI_sL, gI_sA, gI_sM, gL_sI, gL_sL, gL_sA, gL_sM, aI_sI, aI_sL, aI_sA, aI_sM, aL_sI, aL_sL, aL_sA, aL_sM, gI_em, gI_emx, gI_pu, gI_wh, gI_th, aI_em37, aI_em38, aI_em39, aI_em40, aI_em41, aI_em43, aI_em44, aI_em45, aI_em46, aI_em47, aI_em48, aI_em50, aI_em51, aI_em52, aI_em53, aI_em54, aI_em55, aI_em56, aI_em57, aI_em58, aI_em59, aI_em60, aI_em61, aI_em63, aI_em64, aI_em65]
          refine ⟨fun h6 => absurd h6 (by decide), fun h6 => ?_⟩
          clear h6
          apply hB
          dsimp only [rgo, rfd, BifOf, Nat.beq, rwp, rst, lv_args, rlk, rs1, rs2, rdl, rky, rct, rcs, rcd, rno, rsw, Value.category, List.filter, List.take, List.drop, List.reverse, List.reverseAux, List.cons_append, List.nil_append, Option.toList, Int.toNat, Int.reduceToNat, if_pos, if_neg, reduceIte, ↓reduceIte, Nat.reduceAdd, Nat.reduceEqDiff, Nat.reduceBEq, beq_self_eq_true, Bool.not_true, Bool.not_false, Bool.and_true, Bool.and_false, Bool.true_and, Bool.false_and, gI_sI, gI_sL, gI_sA, gI_sM, gL_sI, gL_sL, gL_sA, gL_sM, aI_sI, aI_sL, aI_sA, aI_sM, aL_sI, aL_sL, aL_sA, aL_sM, gI_em, gI_emx, gI_pu, gI_wh, gI_th, aI_em37, aI_em38, aI_em39, aI_em40, aI_em41, aI_em43, aI_em44, aI_em45, aI_em46, aI_em47, aI_em48, aI_em50, aI_em51, aI_em52, aI_em53, aI_em54, aI_em55, aI_em56, aI_em57, aI_em58, aI_em59, aI_em60, aI_em61, aI_em63, aI_em64, aI_em65, BifOf_0, BifOf_28, BifOf_35, BifOf_37, oi_0, oi_2, oi_20, oi_23, P_condition, P_emit, P_open, P_take, P_thing]; try dsimp only
          refine ⟨Or.inl rfl, ?_⟩
          exact ⟨_, rfl, Or.inl ⟨rfl, Fp.tr (by repeat (first | exact Fp.rf | (with_reducible refine Fp.vr ?_ ?_) | refine Fp.a ?_ rfl | refine Fp.i ?_ rfl | refine Fp.y ?_ rfl ⟨by lia, by lia⟩ | exact ⟨by lia, by lia⟩)) hf5.p⟩⟩
        · dsimp only [Option.toList, List.cons_append, List.nil_append, Nat.beq, gI_sI, gI_sL, gI_sA, gI_sM, gL_sI, gL_sL, gL_sA, gL_sM, aI_sI, aI_sL, aI_sA, aI_sM, aL_sI, aL_sL, aL_sA, aL_sM, gI_em, gI_emx, gI_pu, gI_wh, gI_th, aI_em37, aI_em38, aI_em39, aI_em40, aI_em41, aI_em43, aI_em44, aI_em45, aI_em46, aI_em47, aI_em48, aI_em50, aI_em51, aI_em52, aI_em53, aI_em54, aI_em55, aI_em56, aI_em57, aI_em58, aI_em59, aI_em60, aI_em61, aI_em63, aI_em64, aI_em65]
          have hpe5 := hx5 _ _ _ g
          have nne5 := hpe5.nums
          have hlz5 : gI σ 14 < gI τ5 14 := by have hlq : gI σ 14 + 1 < gI τ5 14 := hlt5; lia
          have e495 : gI τ5 49 = gI σ 49 + 1 := hf5.1 49 rfl
          have htk5 : gI σ 18 < gI τ5 18 := lt_nT (by lia) (by lia) (hpe5.tok (c := nT (gI σ 18)) (by simp)).1
          refine ⟨fun h7 => ?_, fun h7 => absurd h7 (by decide)⟩
          clear h7
          apply hB
          dsimp only [rgo, rfd, BifOf, Nat.beq, rwp, rst, lv_args, rlk, rs1, rs2, rdl, rky, rct, rcs, rcd, rno, rsw, Value.category, List.filter, List.take, List.drop, List.reverse, List.reverseAux, List.cons_append, List.nil_append, Option.toList, Int.toNat, Int.reduceToNat, if_pos, if_neg, reduceIte, ↓reduceIte, Nat.reduceAdd, Nat.reduceEqDiff, Nat.reduceBEq, beq_self_eq_true, Bool.not_true, Bool.not_false, Bool.and_true, Bool.and_false, Bool.true_and, Bool.false_and, gI_sI, gI_sL, gI_sA, gI_sM, gL_sI, gL_sL, gL_sA, gL_sM, aI_sI, aI_sL, aI_sA, aI_sM, aL_sI, aL_sL, aL_sA, aL_sM, gI_em, gI_emx, gI_pu, gI_wh, gI_th, aI_em37, aI_em38, aI_em39, aI_em40, aI_em41, aI_em43, aI_em44, aI_em45, aI_em46, aI_em47, aI_em48, aI_em50, aI_em51, aI_em52, aI_em53, aI_em54, aI_em55, aI_em56, aI_em57, aI_em58, aI_em59, aI_em60, aI_em61, aI_em63, aI_em64, aI_em65, BifOf_0, BifOf_28, BifOf_35, BifOf_37, oi_0, oi_2, oi_20, oi_23, P_condition, P_emit, P_open, P_take, P_thing]; try dsimp only
          refine ⟨rfl, (by decide), (⟨by lia, by lia⟩), fun w8 τ8 hq8 => ?_⟩
          obtain ⟨rfl, rfl⟩ := hq8
          dsimp only [Option.toList, List.cons_append, List.nil_append, Nat.beq, gI_sI, gI_sL, gI_sA, gI_sM, gL_sI, gL_sL, gL_sA, gL_sM, aI_sI, aI_sL, aI_sA, aI_sM, aL_sI, aL_sL, aL_sA, aL_sM, gI_em, gI_emx, gI_pu, gI_wh, gI_th, aI_em37, aI_em38, aI_em39, aI_em40, aI_em41, aI_em43, aI_em44, aI_em45, aI_em46, aI_em47, aI_em48, aI_em50, aI_em51, aI_em52, aI_em53, aI_em54, aI_em55, aI_em56, aI_em57, aI_em58, aI_em59, aI_em60, aI_em61, aI_em63, aI_em64, aI_em65]
          refine ⟨rfl, (by decide), (⟨⟨by lia, by lia⟩, ⟨by lia, by lia⟩, ⟨by lia, by lia⟩⟩), fun w9 τ9 hq9 => ?_⟩
          obtain ⟨r9, rfl, hq9⟩ := hq9
          rcases hq9 with ⟨rfl, hd9, rfl⟩ | ⟨rfl, hf9⟩
          · dsimp only [Option.toList, List.cons_append, List.nil_append, Nat.beq, gI_sI, gI_sL, gI_sA, gI_sM, gL_sI, gL_sL, gL_sA, gL_sM, aI_sI, aI_sL, aI_sA, aI_sM, aL_sI, aL_sL, aL_sA, aL_sM, gI_em, gI_emx, gI_pu, gI_wh, gI_th, aI_em37, aI_em38, aI_em39, aI_em40, aI_em41, aI_em43, aI_em44, aI_em45, aI_em46, aI_em47, aI_em48, aI_em50, aI_em51, aI_em52, aI_em53, aI_em54, aI_em55, aI_em56, aI_em57, aI_em58, aI_em59, aI_em60, aI_em61, aI_em63, aI_em64, aI_em65]
            refine ⟨Or.inr rfl, ?_⟩
            refine ⟨_, rfl, Or.inr ⟨rfl, (Fp.tr (by repeat (first | exact Fp.rf | (with_reducible refine Fp.vr ?_ ?_) | refine Fp.a ?_ rfl | refine Fp.i ?_ rfl | refine Fp.y ?_ rfl ⟨by lia, by lia⟩ | exact ⟨by lia, by lia⟩)) hf5.p).tr (by repeat (first | exact Fp.rf | (with_reducible refine Fp.vr ?_ ?_) | refine Fp.a ?_ rfl | refine Fp.i ?_ rfl | refine Fp.y ?_ rfl ⟨by lia, by lia⟩ | exact ⟨by lia, by lia⟩)), ?_, ?_, ?_⟩⟩
            · intro mn k j hσ hk hj
              have b1 := hσ.step (gI σ 14) nn.1 (by omega)
              have hjt : 1 ≤ j := by omega
              have b2 := b1.thg 2 (gI σ 14) hjt (by decide) nn.1
              have b3 := b2.1.take (by assumption) rfl (k + (-5)) (j + (0)) ⟨by omega, by omega⟩ ⟨by omega, by omega⟩
              have b4 := hx5 _ _ _ b3
              have b5 := b4.ift (gI σ 49) (gI σ 14) (hR5 _ (b2.2)) ⟨nn.2.2.2.2.1.1, by show gI σ 49 < gI τ5 49; lia⟩ nn.1 (by omega) 
              have b6 := b5.fop 2 (gI σ 49) (gI σ 18) (by omega) (by assumption) (by decide) ⟨nn.2.2.2.2.1.1, by show gI σ 49 < gI τ5 49; lia⟩ (fun _ => ⟨nn.2.1.1, by show gI σ 18 < gI τ5 18 + 1; lia⟩)
              have b7 := b6.wk k j ⟨by omega, by omega⟩ ⟨by omega, by omega⟩
              rw [FF_fo, FF_em, FF_ff hf5.f, FF_sI (k := 14) (by omega), FF_th, FF_em]
              · rw [fit2]
                exact b7
              · exact nne5.2.2.2.2.2.1
            · refine MF.fop ?_ (by decide) ?_
              · exact MF.of (MF.ff hf5.f (MF.of hMF rfl rfl rfl)) rfl rfl rfl
              · exact nne5.2.2.2.2.2.1
            · show gI σ 14 < gI τ5 14
              lia
          · dsimp only [Option.toList, List.cons_append, List.nil_append, Nat.beq, gI_sI, gI_sL, gI_sA, gI_sM, gL_sI, gL_sL, gL_sA, gL_sM, aI_sI, aI_sL, aI_sA, aI_sM, aL_sI, aL_sL, aL_sA, aL_sM, gI_em, gI_emx, gI_pu, gI_wh, gI_th, aI_em37, aI_em38, aI_em39, aI_em40, aI_em41, aI_em43, aI_em44, aI_em45, aI_em46, aI_em47, aI_em48, aI_em50, aI_em51, aI_em52, aI_em53, aI_em54, aI_em55, aI_em56, aI_em57, aI_em58, aI_em59, aI_em60, aI_em61, aI_em63, aI_em64, aI_em65]
            refine ⟨Or.inl rfl, ?_⟩
            exact ⟨_, rfl, Or.inl ⟨rfl, Fp.tr ((Fp.tr (by repeat (first | exact Fp.rf | (with_reducible refine Fp.vr ?_ ?_) | refine Fp.a ?_ rfl | refine Fp.i ?_ rfl | refine Fp.y ?_ rfl ⟨by lia, by lia⟩ | exact ⟨by lia, by lia⟩)) hf5.p).tr (by repeat (first | exact Fp.rf | (with_reducible refine Fp.vr ?_ ?_) | refine Fp.a ?_ rfl | refine Fp.i ?_ rfl | refine Fp.y ?_ rfl ⟨by lia, by lia⟩ | exact ⟨by lia, by lia⟩))) hf9⟩⟩
      · dsimp only [Option.toList, List.cons_append, List.nil_append, Nat.beq, gI_sI, gI_sL, gI_sA, gI_sM, gL_sI, gL_sL, gL_sA, gL_sM, aI_sI, aI_sL, aI_sA, aI_sM, aL_sI, aL_sL, aL_sA, aL_sM, gI_em, gI_emx, gI_pu, gI_wh, gI_th, aI_em37, aI_em38, aI_em39, aI_em40, aI_em41, aI_em43, aI_em44, aI_em45, aI_em46, aI_em47, aI_em48, aI_em50, aI_em51, aI_em52, aI_em53, aI_em54, aI_em55, aI_em56, aI_em57, aI_em58, aI_em59, aI_em60, aI_em61, aI_em63, aI_em64, aI_em65]
        refine ⟨fun h10 => ?_, fun h10 => absurd h10 (by decide)⟩
        clear h10
        apply hB
        dsimp only [rgo, rfd, BifOf, Nat.beq, rwp, rst, lv_args, rlk, rs1, rs2, rdl, rky, rct, rcs, rcd, rno, rsw, Value.category, List.filter, List.take, List.drop, List.reverse, List.reverseAux, List.cons_append, List.nil_append, Option.toList, Int.toNat, Int.reduceToNat, if_pos, if_neg, reduceIte, ↓reduceIte, Nat.reduceAdd, Nat.reduceEqDiff, Nat.reduceBEq, beq_self_eq_true, Bool.not_true, Bool.not_false, Bool.and_true, Bool.and_false, Bool.true_and, Bool.false_and, gI_sI, gI_sL, gI_sA, gI_sM, gL_sI, gL_sL, gL_sA, gL_sM, aI_sI, aI_sL, aI_sA, aI_sM, aL_sI, aL_sL, aL_sA, aL_sM, gI_em, gI_emx, gI_pu, gI_wh, gI_th, aI_em37, aI_em38, aI_em39, aI_em40, aI_em41, aI_em43, aI_em44, aI_em45, aI_em46, aI_em47, aI_em48, aI_em50, aI_em51, aI_em52, aI_em53, aI_em54, aI_em55, aI_em56, aI_em57, aI_em58, aI_em59, aI_em60, aI_em61, aI_em63, aI_em64, aI_em65, BifOf_0, BifOf_28, BifOf_35, BifOf_37, oi_0, oi_2, oi_20, oi_23, P_condition, P_emit, P_open, P_take, P_thing]; try dsimp only
        refine ⟨Or.inl rfl, ?_⟩
        exact ⟨_, rfl, Or.inl ⟨rfl, by repeat (first | exact Fp.rf | (with_reducible refine Fp.vr ?_ ?_) | refine Fp.a ?_ rfl | refine Fp.i ?_ rfl | refine Fp.y ?_ rfl ⟨by lia, by lia⟩ | exact ⟨by lia, by lia⟩)⟩⟩
    next => exact hP.elim
theorem m_ifOf (l : Launch) : RMet l 8 53 P_ifOf Q_ifOf := by
  refine RMet.by BifOf [(52, P_condition, Q_condition), (20, P_emit, Q_emit), (36, P_open, Q_open), (17, P_take, Q_take), (35, P_thing, Q_thing)] roifOf okBifOf (ctc (m_condition l) (by decide) (ctc (m_emit l) (by decide) (ctc (m_open l) (by decide) (ctc (m_take l) (by decide) (ctc (m_thing l) (by decide) ct0))))) ?_ b_ifOf
  · intro As σ hP
    unfold P_ifOf at hP
    split at hP
    next => exact Nat.le_of_ble_eq_true rfl
    next => exact hP.elim
set_option maxRecDepth 100000 in
theorem e_ifOf (l : Launch) : RMetE l 8 53 P_ifOf Q_ifOf := by
  refine RMetE.by BifOf [(52, P_condition, Q_condition), (20, P_emit, Q_emit), (36, P_open, Q_open), (17, P_take, Q_take), (35, P_thing, Q_thing)] rfl rfl roifOf okBifOf (ctEc (e_condition l) (by decide) (ctEc (e_emit l) (by decide) (ctEc (e_open l) (by decide) (ctEc (e_take l) (by decide) (ctEc (e_thing l) (by decide) ctE0))))) ?_ b_ifOf
  · intro As σ hP
    unfold P_ifOf at hP
    split at hP
    next => exact Nat.le_of_ble_eq_true rfl
    next => exact hP.elim
def P_whileOf : RP := fun As σ => match As with
  | [] => ∃ mn k j, PI σ [] (FF σ, mn) k j ∧ k ≤ 12 ∧ 1 ≤ j ∧ MF σ
  | _ => False
def Q_whileOf : RQ := fun As σ w τ => match As with
  | [] => ∃ r : Int32, w = some (.int r) ∧ ((r = 0 ∧ Fp σ τ) ∨ (r = 1 ∧ Fp σ τ ∧ (∀ mn k j, PI σ [] (FF σ, mn) k j → k ≤ 12 → 1 ≤ j → PI τ [] (FF τ, mn) k j) ∧ MF τ ∧ (gI σ 14) < (gI τ 14)))
  | _ => False
set_option maxRecDepth 100000 in
set_option maxHeartbeats 4000000 in
theorem b_whileOf : Bod BwhileOf [(52, P_condition, Q_condition), (20, P_emit, Q_emit), (36, P_open, Q_open), (17, P_take, Q_take), (35, P_thing, Q_thing)] P_whileOf Q_whileOf := by
  · intro As σ hP G hB hW
    unfold P_whileOf at hP
    split at hP
    next => 
      unfold Q_whileOf at hB
      dsimp only at hB
      obtain ⟨mm, kk, jj, hPJ, hkk, hjj, hMF⟩ := hP
      have nn := PI.nums hPJ
      apply hB
      dsimp only [rgo, rfd, BwhileOf, Nat.beq, rwp, rst, lv_args, rlk, rs1, rs2, rdl, rky, rct, rcs, rcd, rno, rsw, Value.category, List.filter, List.take, List.drop, List.reverse, List.reverseAux, List.cons_append, List.nil_append, Option.toList, Int.toNat, Int.reduceToNat, if_pos, if_neg, reduceIte, ↓reduceIte, Nat.reduceAdd, Nat.reduceEqDiff, Nat.reduceBEq, beq_self_eq_true, Bool.not_true, Bool.not_false, Bool.and_true, Bool.and_false, Bool.true_and, Bool.false_and, gI_sI, gI_sL, gI_sA, gI_sM, gL_sI, gL_sL, gL_sA, gL_sM, aI_sI, aI_sL, aI_sA, aI_sM, aL_sI, aL_sL, aL_sA, aL_sM, gI_em, gI_emx, gI_pu, gI_wh, gI_th, aI_em37, aI_em38, aI_em39, aI_em40, aI_em41, aI_em43, aI_em44, aI_em45, aI_em46, aI_em47, aI_em48, aI_em50, aI_em51, aI_em52, aI_em53, aI_em54, aI_em55, aI_em56, aI_em57, aI_em58, aI_em59, aI_em60, aI_em61, aI_em63, aI_em64, aI_em65, BwhileOf_0, BwhileOf_37, BwhileOf_44, BwhileOf_46, oi_0, oi_20, oi_26, oi_27, oi_4, P_condition, P_emit, P_open, P_take, P_thing]; try dsimp only
      refine ⟨rfl, rfl, (by decide), (⟨by lia, by lia⟩), fun w1 τ1 hq1 => ?_⟩
      obtain ⟨rfl, rfl⟩ := hq1
      dsimp only [Option.toList, List.cons_append, List.nil_append, Nat.beq, gI_sI, gI_sL, gI_sA, gI_sM, gL_sI, gL_sL, gL_sA, gL_sM, aI_sI, aI_sL, aI_sA, aI_sM, aL_sI, aL_sL, aL_sA, aL_sM, gI_em, gI_emx, gI_pu, gI_wh, gI_th, aI_em37, aI_em38, aI_em39, aI_em40, aI_em41, aI_em43, aI_em44, aI_em45, aI_em46, aI_em47, aI_em48, aI_em50, aI_em51, aI_em52, aI_em53, aI_em54, aI_em55, aI_em56, aI_em57, aI_em58, aI_em59, aI_em60, aI_em61, aI_em63, aI_em64, aI_em65]
      refine ⟨rfl, (by decide), (⟨by lia, by lia⟩), fun w2 τ2 hq2 => ?_⟩
      obtain ⟨rfl, rfl⟩ := hq2
      dsimp only [Option.toList, List.cons_append, List.nil_append, Nat.beq, gI_sI, gI_sL, gI_sA, gI_sM, gL_sI, gL_sL, gL_sA, gL_sM, aI_sI, aI_sL, aI_sA, aI_sM, aL_sI, aL_sL, aL_sA, aL_sM, gI_em, gI_emx, gI_pu, gI_wh, gI_th, aI_em37, aI_em38, aI_em39, aI_em40, aI_em41, aI_em43, aI_em44, aI_em45, aI_em46, aI_em47, aI_em48, aI_em50, aI_em51, aI_em52, aI_em53, aI_em54, aI_em55, aI_em56, aI_em57, aI_em58, aI_em59, aI_em60, aI_em61, aI_em63, aI_em64, aI_em65]
      refine ⟨rfl, (by decide), (⟨by lia, by lia⟩), fun w3 τ3 hq3 => ?_⟩
      obtain ⟨rfl, rfl⟩ := hq3
      dsimp only [Option.toList, List.cons_append, List.nil_append, Nat.beq, gI_sI, gI_sL, gI_sA, gI_sM, gL_sI, gL_sL, gL_sA, gL_sM, aI_sI, aI_sL, aI_sA, aI_sM, aL_sI, aL_sL, aL_sA, aL_sM, gI_em, gI_emx, gI_pu, gI_wh, gI_th, aI_em37, aI_em38, aI_em39, aI_em40, aI_em41, aI_em43, aI_em44, aI_em45, aI_em46, aI_em47, aI_em48, aI_em50, aI_em51, aI_em52, aI_em53, aI_em54, aI_em55, aI_em56, aI_em57, aI_em58, aI_em59, aI_em60, aI_em61, aI_em63, aI_em64, aI_em65]
      refine ⟨rfl, (by decide), (⟨by lia, by lia⟩), fun w4 τ4 hq4 => ?_⟩
      obtain ⟨r4, rfl, hq4⟩ := hq4
      rcases hq4 with ⟨rfl, hp4, rfl⟩ | ⟨rfl, fa4, fb4, rfl⟩
      · dsimp only [Option.toList, List.cons_append, List.nil_append, Nat.beq, gI_sI, gI_sL, gI_sA, gI_sM, gL_sI, gL_sL, gL_sA, gL_sM, aI_sI, aI_sL, aI_sA, aI_sM, aL_sI, aL_sL, aL_sA, aL_sM, gI_em, gI_emx, gI_pu, gI_wh, gI_th, aI_em37, aI_em38, aI_em39, aI_em40, aI_em41, aI_em43, aI_em44, aI_em45, aI_em46, aI_em47, aI_em48, aI_em50, aI_em51, aI_em52, aI_em53, aI_em54, aI_em55, aI_em56, aI_em57, aI_em58, aI_em59, aI_em60, aI_em61, aI_em63, aI_em64, aI_em65]
        try dsimp only [Option.toList, List.cons_append, List.nil_append, Nat.beq, gI_sI, gI_sL, gI_sA, gI_sM, gL_sI, gL_sL, gL_sA, gL_sM, aI_sI, aI_sL, aI_sA, aI_sM, aL_sI, aL_sL, aL_sA, aL_sM, gI_em, gI_emx, gI_pu, gI_wh, gI_th, aI_em37, aI_em38, aI_em39, aI_em40, aI_em41, aI_em43, aI_em44, aI_em45, aI_em46, aI_em47, aI_em48, aI_em50, aI_em51, aI_em52, aI_em53, aI_em54, aI_em55, aI_em56, aI_em57, aI_em58, aI_em59, aI_em60, aI_em61, aI_em63, aI_em64, aI_em65] at hp4
        have b1 := hPJ.step (gI σ 14) nn.1 (by omega)
        have hjt : 1 ≤ jj := by omega
        have b2 := b1.thg 4 (gI σ 14) hjt (by decide) nn.1
        have b3 := b2.1.whb (gI σ 49) (gI σ 14) (b2.2) ⟨nn.2.2.2.2.1.1, by show gI σ 49 < gI σ 49 + 1; lia⟩ nn.1 (by omega) th51a th50
        have b4 := b3.take (by assumption) rfl (kk + (-4)) (jj + (0)) ⟨by omega, by omega⟩ ⟨by omega, by omega⟩
        have g := b4
        refine ⟨fun h5 => absurd h5 (by decide), fun h5 => ?_⟩
        clear h5
        apply hB
        dsimp only [rgo, rfd, BwhileOf, Nat.beq, rwp, rst, lv_args, rlk, rs1, rs2, rdl, rky, rct, rcs, rcd, rno, rsw, Value.category, List.filter, List.take, List.drop, List.reverse, List.reverseAux, List.cons_append, List.nil_append, Option.toList, Int.toNat, Int.reduceToNat, if_pos, if_neg, reduceIte, ↓reduceIte, Nat.reduceAdd, Nat.reduceEqDiff, Nat.reduceBEq, beq_self_eq_true, Bool.not_true, Bool.not_false, Bool.and_true, Bool.and_false, Bool.true_and, Bool.false_and, gI_sI, gI_sL, gI_sA, gI_sM, gL_sI, gL_sL, gL_sA, gL_sM, aI_sI, aI_sL, aI_sA, aI_sM, aL_sI, aL_sL, aL_sA, aL_sM, gI_em, gI_emx, gI_pu, gI_wh, gI_th, aI_em37, aI_em38, aI_em39, aI_em40, aI_em41, aI_em43, aI_em44, aI_em45, aI_em46, aI_em47, aI_em48, aI_em50, aI_em51, aI_em52, aI_em53, aI_em54, aI_em55, aI_em56, aI_em57, aI_em58, aI_em59, aI_em60, aI_em61, aI_em63, aI_em64, aI_em65, BwhileOf_0, BwhileOf_37, BwhileOf_44, BwhileOf_46, oi_0, oi_20, oi_26, oi_27, oi_4, P_condition, P_emit, P_open, P_take, P_thing]; try dsimp only
        refine ⟨rfl, (by decide), (⟨_, _, _, g⟩), fun w6 τ6 hq6 => ?_⟩
        obtain ⟨r6, rfl, hq6⟩ := hq6
        rcases hq6 with ⟨rfl, hf6⟩ | ⟨rfl, hf6, hx6, hR6, hlt6, hro6⟩
        · dsimp only [Option.toList, List.cons_append, List.nil_append, Nat.beq, gI_sI, gI_sL, gI_sA, gI_sM, gL_sI, gL_sL, gL_sA, gL_sM, aI_sI, aI_sL, aI_sA, aI_sM, aL_sI, aL_sL, aL_sA, aL_sM, gI_em, gI_emx, gI_pu, gI_wh, gI_th, aI_em37, aI_em38, aI_em39, aI_em40, aI_em41, aI_em43, aI_em44, aI_em45, aI_em46, aI_em47, aI_em48, aI_em50, aI_em51, aI_em52, aI_em53, aI_em54, aI_em55, aI_em56, aI_em57, aI_em58, aI_em59, aI_em60, aI_em61, aI_em63, aI_em64, aI_em65]
          refine ⟨fun h7 => absurd h7 (by decide), fun h7 => ?_⟩
          clear h7
          apply hB
          dsimp only [rgo, rfd, BwhileOf, Nat.beq, rwp, rst, lv_args, rlk, rs1, rs2, rdl, rky, rct, rcs, rcd, rno, rsw, Value.category, List.filter, List.take, List.drop, List.reverse, List.reverseAux, List.cons_append, List.nil_append, Option.toList, Int.toNat, Int.reduceToNat, if_pos, if_neg, reduceIte, ↓reduceIte, Nat.reduceAdd, Nat.reduceEqDiff, Nat.reduceBEq, beq_self_eq_true, Bool.not_true, Bool.not_false, Bool.and_true, Bool.and_false, Bool.true_and, Bool.false_and, gI_sI, gI_sL, gI_sA, gI_sM, gL_sI, gL_sL, gL_sA, gL_sM, aI_sI, aI_sL, aI_sA, aI_sM, aL_sI, aL_sL, aL_sA, aL_sM, gI_em, gI_emx, gI_pu, gI_wh, gI_th, aI_em37, aI_em38, aI_em39, aI_em40, aI_em41, aI_em43, aI_em44, aI_em45, aI_em46, aI_em47, aI_em48, aI_em50, aI_em51, aI_em52, aI_em53, aI_em54, aI_em55, aI_em56, aI_em57, aI_em58, aI_em59, aI_em60, aI_em61, aI_em63, aI_em64, aI_em65, BwhileOf_0, BwhileOf_37, BwhileOf_44, BwhileOf_46, oi_0, oi_20, oi_26, oi_27, oi_4, P_condition, P_emit, P_open, P_take, P_thing]; try dsimp only
          refine ⟨Or.inl rfl, ?_⟩
          exact ⟨_, rfl, Or.inl ⟨rfl, Fp.tr (by repeat (first | exact Fp.rf | (with_reducible refine Fp.vr ?_ ?_) | refine Fp.a ?_ rfl | refine Fp.i ?_ rfl | refine Fp.y ?_ rfl ⟨by lia, by lia⟩ | exact ⟨by lia, by lia⟩)) hf6.p⟩⟩
        · dsimp only [Option.toList, List.cons_append, List.nil_append, Nat.beq, gI_sI, gI_sL, gI_sA, gI_sM, gL_sI, gL_sL, gL_sA, gL_sM, aI_sI, aI_sL, aI_sA, aI_sM, aL_sI, aL_sL, aL_sA, aL_sM, gI_em, gI_emx, gI_pu, gI_wh, gI_th, aI_em37, aI_em38, aI_em39, aI_em40, aI_em41, aI_em43, aI_em44, aI_em45, aI_em46, aI_em47, aI_em48, aI_em50, aI_em51, aI_em52, aI_em53, aI_em54, aI_em55, aI_em56, aI_em57, aI_em58, aI_em59, aI_em60, aI_em61, aI_em63, aI_em64, aI_em65]
          have hpe6 := hx6 _ _ _ g
          have nne6 := hpe6.nums
          have hlz6 : gI σ 14 < gI τ6 14 := by have hlq : gI σ 14 + 1 < gI τ6 14 := hlt6; lia
          have e496 : gI τ6 49 = gI σ 49 + 1 := hf6.1 49 rfl
          have htk6 : gI σ 18 < gI τ6 18 := lt_nT (by lia) (by lia) (hpe6.tok (c := nT (gI σ 18)) (by simp)).1
          refine ⟨fun h8 => ?_, fun h8 => absurd h8 (by decide)⟩
          clear h8
          apply hB
          dsimp only [rgo, rfd, BwhileOf, Nat.beq, rwp, rst, lv_args, rlk, rs1, rs2, rdl, rky, rct, rcs, rcd, rno, rsw, Value.category, List.filter, List.take, List.drop, List.reverse, List.reverseAux, List.cons_append, List.nil_append, Option.toList, Int.toNat, Int.reduceToNat, if_pos, if_neg, reduceIte, ↓reduceIte, Nat.reduceAdd, Nat.reduceEqDiff, Nat.reduceBEq, beq_self_eq_true, Bool.not_true, Bool.not_false, Bool.and_true, Bool.and_false, Bool.true_and, Bool.false_and, gI_sI, gI_sL, gI_sA, gI_sM, gL_sI, gL_sL, gL_sA, gL_sM, aI_sI, aI_sL, aI_sA, aI_sM, aL_sI, aL_sL, aL_sA, aL_sM, gI_em, gI_emx, gI_pu, gI_wh, gI_th, aI_em37, aI_em38, aI_em39, aI_em40, aI_em41, aI_em43, aI_em44, aI_em45, aI_em46, aI_em47, aI_em48, aI_em50, aI_em51, aI_em52, aI_em53, aI_em54, aI_em55, aI_em56, aI_em57, aI_em58, aI_em59, aI_em60, aI_em61, aI_em63, aI_em64, aI_em65, BwhileOf_0, BwhileOf_37, BwhileOf_44, BwhileOf_46, oi_0, oi_20, oi_26, oi_27, oi_4, P_condition, P_emit, P_open, P_take, P_thing]; try dsimp only
          refine ⟨rfl, rfl, (by decide), (⟨by lia, by lia⟩), fun w9 τ9 hq9 => ?_⟩
          obtain ⟨rfl, rfl⟩ := hq9
          dsimp only [Option.toList, List.cons_append, List.nil_append, Nat.beq, gI_sI, gI_sL, gI_sA, gI_sM, gL_sI, gL_sL, gL_sA, gL_sM, aI_sI, aI_sL, aI_sA, aI_sM, aL_sI, aL_sL, aL_sA, aL_sM, gI_em, gI_emx, gI_pu, gI_wh, gI_th, aI_em37, aI_em38, aI_em39, aI_em40, aI_em41, aI_em43, aI_em44, aI_em45, aI_em46, aI_em47, aI_em48, aI_em50, aI_em51, aI_em52, aI_em53, aI_em54, aI_em55, aI_em56, aI_em57, aI_em58, aI_em59, aI_em60, aI_em61, aI_em63, aI_em64, aI_em65]
          refine ⟨rfl, (in_52 (by lia) (by lia)), rfl, (by decide), (⟨⟨by lia, by lia⟩, ⟨by lia, by lia⟩, ⟨by lia, by lia⟩⟩), fun w10 τ10 hq10 => ?_⟩
          obtain ⟨r10, rfl, hq10⟩ := hq10
          rcases hq10 with ⟨rfl, hd10, rfl⟩ | ⟨rfl, hf10⟩
          · dsimp only [Option.toList, List.cons_append, List.nil_append, Nat.beq, gI_sI, gI_sL, gI_sA, gI_sM, gL_sI, gL_sL, gL_sA, gL_sM, aI_sI, aI_sL, aI_sA, aI_sM, aL_sI, aL_sL, aL_sA, aL_sM, gI_em, gI_emx, gI_pu, gI_wh, gI_th, aI_em37, aI_em38, aI_em39, aI_em40, aI_em41, aI_em43, aI_em44, aI_em45, aI_em46, aI_em47, aI_em48, aI_em50, aI_em51, aI_em52, aI_em53, aI_em54, aI_em55, aI_em56, aI_em57, aI_em58, aI_em59, aI_em60, aI_em61, aI_em63, aI_em64, aI_em65]
            refine ⟨Or.inr rfl, ?_⟩
            refine ⟨_, rfl, Or.inr ⟨rfl, (Fp.tr (by repeat (first | exact Fp.rf | (with_reducible refine Fp.vr ?_ ?_) | refine Fp.a ?_ rfl | refine Fp.i ?_ rfl | refine Fp.y ?_ rfl ⟨by lia, by lia⟩ | exact ⟨by lia, by lia⟩)) hf6.p).tr (by repeat (first | exact Fp.rf | (with_reducible refine Fp.vr ?_ ?_) | refine Fp.a ?_ rfl | refine Fp.i ?_ rfl | refine Fp.y ?_ rfl ⟨by lia, by lia⟩ | exact ⟨by lia, by lia⟩)), ?_, ?_, ?_⟩⟩
            · intro mn k j hσ hk hj
              have b1 := hσ.step (gI σ 14) nn.1 (by omega)
              have hjt : 1 ≤ j := by omega
              have b2 := b1.thg 4 (gI σ 14) hjt (by decide) nn.1
              have b3 := b2.1.whb (gI σ 49) (gI σ 14) (b2.2) ⟨nn.2.2.2.2.1.1, by show gI σ 49 < gI σ 49 + 1; lia⟩ nn.1 (by omega) th51a th50
              have b4 := b3.take (by assumption) rfl (k + (-4)) (j + (0)) ⟨by omega, by omega⟩ ⟨by omega, by omega⟩
              have b5 := hx6 _ _ _ b4
              have b6 := b5.wht (gI σ 14) ⟨nn.2.2.2.2.1.1, by show gI σ 49 < gI τ6 49; lia⟩ nn.1 (by omega)
              have b7 := b6.fop 4 (gI σ 49) (gI σ 18) (by omega) (by assumption) (by decide) ⟨nn.2.2.2.2.1.1, by show gI σ 49 < gI τ6 49; lia⟩ (fun _ => ⟨nn.2.1.1, by show gI σ 18 < gI τ6 18 + 1; lia⟩)
              have b8 := b7.wk k j ⟨by omega, by omega⟩ ⟨by omega, by omega⟩
              rw [FF_fo, FF_sA (k := 52) (by omega), FF_em, FF_ff hf6.f, FF_sI (k := 14) (by omega), FF_em, FF_th, FF_em]
              · rw [fit4]
                exact b8
              · exact nne6.2.2.2.2.2.1
            · refine MF.fop ?_ (by decide) ?_
              · exact MF.of (MF.ff hf6.f (MF.of hMF rfl rfl rfl)) rfl rfl rfl
              · exact nne6.2.2.2.2.2.1
            · show gI σ 14 < gI τ6 14
              lia
          · dsimp only [Option.toList, List.cons_append, List.nil_append, Nat.beq, gI_sI, gI_sL, gI_sA, gI_sM, gL_sI, gL_sL, gL_sA, gL_sM, aI_sI, aI_sL, aI_sA, aI_sM, aL_sI, aL_sL, aL_sA, aL_sM, gI_em, gI_emx, gI_pu, gI_wh, gI_th, aI_em37, aI_em38, aI_em39, aI_em40, aI_em41, aI_em43, aI_em44, aI_em45, aI_em46, aI_em47, aI_em48, aI_em50, aI_em51, aI_em52, aI_em53, aI_em54, aI_em55, aI_em56, aI_em57, aI_em58, aI_em59, aI_em60, aI_em61, aI_em63, aI_em64, aI_em65]
            refine ⟨Or.inl rfl, ?_⟩
            exact ⟨_, rfl, Or.inl ⟨rfl, Fp.tr ((Fp.tr (by repeat (first | exact Fp.rf | (with_reducible refine Fp.vr ?_ ?_) | refine Fp.a ?_ rfl | refine Fp.i ?_ rfl | refine Fp.y ?_ rfl ⟨by lia, by lia⟩ | exact ⟨by lia, by lia⟩)) hf6.p).tr (by repeat (first | exact Fp.rf | (with_reducible refine Fp.vr ?_ ?_) | refine Fp.a ?_ rfl | refine Fp.i ?_ rfl | refine Fp.y ?_ rfl ⟨by lia, by lia⟩ | exact ⟨by lia, by lia⟩))) hf10⟩⟩
      · dsimp only [Option.toList, List.cons_append, List.nil_append, Nat.beq, gI_sI, gI_sL, gI_sA, gI_sM, gL_sI, gL_sL, gL_sA, gL_sM, aI_sI, aI_sL, aI_sA, aI_sM, aL_sI, aL_sL, aL_sA, aL_sM, gI_em, gI_emx, gI_pu, gI_wh, gI_th, aI_em37, aI_em38, aI_em39, aI_em40, aI_em41, aI_em43, aI_em44, aI_em45, aI_em46, aI_em47, aI_em48, aI_em50, aI_em51, aI_em52, aI_em53, aI_em54, aI_em55, aI_em56, aI_em57, aI_em58, aI_em59, aI_em60, aI_em61, aI_em63, aI_em64, aI_em65]
        refine ⟨fun h11 => ?_, fun h11 => absurd h11 (by decide)⟩
        clear h11
        apply hB
        dsimp only [rgo, rfd, BwhileOf, Nat.beq, rwp, rst, lv_args, rlk, rs1, rs2, rdl, rky, rct, rcs, rcd, rno, rsw, Value.category, List.filter, List.take, List.drop, List.reverse, List.reverseAux, List.cons_append, List.nil_append, Option.toList, Int.toNat, Int.reduceToNat, if_pos, if_neg, reduceIte, ↓reduceIte, Nat.reduceAdd, Nat.reduceEqDiff, Nat.reduceBEq, beq_self_eq_true, Bool.not_true, Bool.not_false, Bool.and_true, Bool.and_false, Bool.true_and, Bool.false_and, gI_sI, gI_sL, gI_sA, gI_sM, gL_sI, gL_sL, gL_sA, gL_sM, aI_sI, aI_sL, aI_sA, aI_sM, aL_sI, aL_sL, aL_sA, aL_sM, gI_em, gI_emx, gI_pu, gI_wh, gI_th, aI_em37, aI_em38, aI_em39, aI_em40, aI_em41, aI_em43, aI_em44, aI_em45, aI_em46, aI_em47, aI_em48, aI_em50, aI_em51, aI_em52, aI_em53, aI_em54, aI_em55, aI_em56, aI_em57, aI_em58, aI_em59, aI_em60, aI_em61, aI_em63, aI_em64, aI_em65, BwhileOf_0, BwhileOf_37, BwhileOf_44, BwhileOf_46, oi_0, oi_20, oi_26, oi_27, oi_4, P_condition, P_emit, P_open, P_take, P_thing]; try dsimp only
        refine ⟨Or.inl rfl, ?_⟩
        exact ⟨_, rfl, Or.inl ⟨rfl, by repeat (first | exact Fp.rf | (with_reducible refine Fp.vr ?_ ?_) | refine Fp.a ?_ rfl | refine Fp.i ?_ rfl | refine Fp.y ?_ rfl ⟨by lia, by lia⟩ | exact ⟨by lia, by lia⟩)⟩⟩
    next => exact hP.elim
theorem m_whileOf (l : Launch) : RMet l 8 54 P_whileOf Q_whileOf := by
  refine RMet.by BwhileOf [(52, P_condition, Q_condition), (20, P_emit, Q_emit), (36, P_open, Q_open), (17, P_take, Q_take), (35, P_thing, Q_thing)] rowhileOf okBwhileOf (ctc (m_condition l) (by decide) (ctc (m_emit l) (by decide) (ctc (m_open l) (by decide) (ctc (m_take l) (by decide) (ctc (m_thing l) (by decide) ct0))))) ?_ b_whileOf
  · intro As σ hP
    unfold P_whileOf at hP
    split at hP
    next => exact Nat.le_of_ble_eq_true rfl
    next => exact hP.elim
set_option maxRecDepth 100000 in
theorem e_whileOf (l : Launch) : RMetE l 8 54 P_whileOf Q_whileOf := by
  refine RMetE.by BwhileOf [(52, P_condition, Q_condition), (20, P_emit, Q_emit), (36, P_open, Q_open), (17, P_take, Q_take), (35, P_thing, Q_thing)] rfl rfl rowhileOf okBwhileOf (ctEc (e_condition l) (by decide) (ctEc (e_emit l) (by decide) (ctEc (e_open l) (by decide) (ctEc (e_take l) (by decide) (ctEc (e_thing l) (by decide) ctE0))))) ?_ b_whileOf
  · intro As σ hP
    unfold P_whileOf at hP
    split at hP
    next => exact Nat.le_of_ble_eq_true rfl
    next => exact hP.elim
def P_switchOf : RP := fun As σ => match As with
  | [] => ∃ mn k j, PI σ [] (FF σ, mn) k j ∧ k ≤ 12 ∧ 1 ≤ j ∧ MF σ
  | _ => False
def Q_switchOf : RQ := fun As σ w τ => match As with
  | [] => ∃ r : Int32, w = some (.int r) ∧ ((r = 0 ∧ Fp σ τ) ∨ (r = 1 ∧ Fp σ τ ∧ (∀ mn k j, PI σ [] (FF σ, mn) k j → k ≤ 12 → 1 ≤ j → PI τ [] (FF τ, mn) k j) ∧ MF τ ∧ (gI σ 14) < (gI τ 14)))
  | _ => False
set_option maxRecDepth 100000 in
set_option maxHeartbeats 4000000 in
theorem b_switchOf : Bod BswitchOf [(52, P_condition, Q_condition), (20, P_emit, Q_emit), (36, P_open, Q_open), (17, P_take, Q_take), (35, P_thing, Q_thing), (18, P_want, Q_want)] P_switchOf Q_switchOf := by
  · intro As σ hP G hB hW
    unfold P_switchOf at hP
    split at hP
    next => 
      unfold Q_switchOf at hB
      dsimp only at hB
      obtain ⟨mm, kk, jj, hPJ, hkk, hjj, hMF⟩ := hP
      have nn := PI.nums hPJ
      apply hB
      dsimp only [rgo, rfd, BswitchOf, Nat.beq, rwp, rst, lv_args, rlk, rs1, rs2, rdl, rky, rct, rcs, rcd, rno, rsw, Value.category, List.filter, List.take, List.drop, List.reverse, List.reverseAux, List.cons_append, List.nil_append, Option.toList, Int.toNat, Int.reduceToNat, if_pos, if_neg, reduceIte, ↓reduceIte, Nat.reduceAdd, Nat.reduceEqDiff, Nat.reduceBEq, beq_self_eq_true, Bool.not_true, Bool.not_false, Bool.and_true, Bool.and_false, Bool.true_and, Bool.false_and, gI_sI, gI_sL, gI_sA, gI_sM, gL_sI, gL_sL, gL_sA, gL_sM, aI_sI, aI_sL, aI_sA, aI_sM, aL_sI, aL_sL, aL_sA, aL_sM, gI_em, gI_emx, gI_pu, gI_wh, gI_th, aI_em37, aI_em38, aI_em39, aI_em40, aI_em41, aI_em43, aI_em44, aI_em45, aI_em46, aI_em47, aI_em48, aI_em50, aI_em51, aI_em52, aI_em53, aI_em54, aI_em55, aI_em56, aI_em57, aI_em58, aI_em59, aI_em60, aI_em61, aI_em63, aI_em64, aI_em65, BswitchOf_0, BswitchOf_29, BswitchOf_36, BswitchOf_38, BswitchOf_61, BswitchOf_72, BswitchOf_76, BswitchOf_77, oi_0, oi_1, oi_123, oi_20, oi_37, oi_8, P_condition, P_emit, P_open, P_take, P_thing, P_want]; try dsimp only
      refine ⟨rfl, rfl, (by decide), (⟨by lia, by lia⟩), fun w1 τ1 hq1 => ?_⟩
      obtain ⟨rfl, rfl⟩ := hq1
      dsimp only [Option.toList, List.cons_append, List.nil_append, Nat.beq, gI_sI, gI_sL, gI_sA, gI_sM, gL_sI, gL_sL, gL_sA, gL_sM, aI_sI, aI_sL, aI_sA, aI_sM, aL_sI, aL_sL, aL_sA, aL_sM, gI_em, gI_emx, gI_pu, gI_wh, gI_th, aI_em37, aI_em38, aI_em39, aI_em40, aI_em41, aI_em43, aI_em44, aI_em45, aI_em46, aI_em47, aI_em48, aI_em50, aI_em51, aI_em52, aI_em53, aI_em54, aI_em55, aI_em56, aI_em57, aI_em58, aI_em59, aI_em60, aI_em61, aI_em63, aI_em64, aI_em65]
      refine ⟨rfl, (by decide), (⟨by lia, by lia⟩), fun w2 τ2 hq2 => ?_⟩
      obtain ⟨rfl, rfl⟩ := hq2
      dsimp only [Option.toList, List.cons_append, List.nil_append, Nat.beq, gI_sI, gI_sL, gI_sA, gI_sM, gL_sI, gL_sL, gL_sA, gL_sM, aI_sI, aI_sL, aI_sA, aI_sM, aL_sI, aL_sL, aL_sA, aL_sM, gI_em, gI_emx, gI_pu, gI_wh, gI_th, aI_em37, aI_em38, aI_em39, aI_em40, aI_em41, aI_em43, aI_em44, aI_em45, aI_em46, aI_em47, aI_em48, aI_em50, aI_em51, aI_em52, aI_em53, aI_em54, aI_em55, aI_em56, aI_em57, aI_em58, aI_em59, aI_em60, aI_em61, aI_em63, aI_em64, aI_em65]
      refine ⟨rfl, (by decide), (⟨by lia, by lia⟩), fun w3 τ3 hq3 => ?_⟩
      obtain ⟨r3, rfl, hq3⟩ := hq3
      rcases hq3 with ⟨rfl, hp3, rfl⟩ | ⟨rfl, fa3, fb3, rfl⟩
      · dsimp only [Option.toList, List.cons_append, List.nil_append, Nat.beq, gI_sI, gI_sL, gI_sA, gI_sM, gL_sI, gL_sL, gL_sA, gL_sM, aI_sI, aI_sL, aI_sA, aI_sM, aL_sI, aL_sL, aL_sA, aL_sM, gI_em, gI_emx, gI_pu, gI_wh, gI_th, aI_em37, aI_em38, aI_em39, aI_em40, aI_em41, aI_em43, aI_em44, aI_em45, aI_em46, aI_em47, aI_em48, aI_em50, aI_em51, aI_em52, aI_em53, aI_em54, aI_em55, aI_em56, aI_em57, aI_em58, aI_em59, aI_em60, aI_em61, aI_em63, aI_em64, aI_em65]
        try dsimp only [Option.toList, List.cons_append, List.nil_append, Nat.beq, gI_sI, gI_sL, gI_sA, gI_sM, gL_sI, gL_sL, gL_sA, gL_sM, aI_sI, aI_sL, aI_sA, aI_sM, aL_sI, aL_sL, aL_sA, aL_sM, gI_em, gI_emx, gI_pu, gI_wh, gI_th, aI_em37, aI_em38, aI_em39, aI_em40, aI_em41, aI_em43, aI_em44, aI_em45, aI_em46, aI_em47, aI_em48, aI_em50, aI_em51, aI_em52, aI_em53, aI_em54, aI_em55, aI_em56, aI_em57, aI_em58, aI_em59, aI_em60, aI_em61, aI_em63, aI_em64, aI_em65] at hp3
        have b1 := hPJ.step (gI σ 14) nn.1 (by omega)
        have hjt : 1 ≤ jj := by omega
        have b2 := b1.thg 8 (gI σ 14) hjt (by decide) nn.1
        have b3 := b2.1.take (by assumption) rfl (kk + (-5)) (jj + (0)) ⟨by omega, by omega⟩ ⟨by omega, by omega⟩
        have g := b3
        refine ⟨fun h4 => absurd h4 (by decide), fun h4 => ?_⟩
        clear h4
        apply hB
        dsimp only [rgo, rfd, BswitchOf, Nat.beq, rwp, rst, lv_args, rlk, rs1, rs2, rdl, rky, rct, rcs, rcd, rno, rsw, Value.category, List.filter, List.take, List.drop, List.reverse, List.reverseAux, List.cons_append, List.nil_append, Option.toList, Int.toNat, Int.reduceToNat, if_pos, if_neg, reduceIte, ↓reduceIte, Nat.reduceAdd, Nat.reduceEqDiff, Nat.reduceBEq, beq_self_eq_true, Bool.not_true, Bool.not_false, Bool.and_true, Bool.and_false, Bool.true_and, Bool.false_and, gI_sI, gI_sL, gI_sA, gI_sM, gL_sI, gL_sL, gL_sA, gL_sM, aI_sI, aI_sL, aI_sA, aI_sM, aL_sI, aL_sL, aL_sA, aL_sM, gI_em, gI_emx, gI_pu, gI_wh, gI_th, aI_em37, aI_em38, aI_em39, aI_em40, aI_em41, aI_em43, aI_em44, aI_em45, aI_em46, aI_em47, aI_em48, aI_em50, aI_em51, aI_em52, aI_em53, aI_em54, aI_em55, aI_em56, aI_em57, aI_em58, aI_em59, aI_em60, aI_em61, aI_em63, aI_em64, aI_em65, BswitchOf_0, BswitchOf_29, BswitchOf_36, BswitchOf_38, BswitchOf_61, BswitchOf_72, BswitchOf_76, BswitchOf_77, oi_0, oi_1, oi_123, oi_20, oi_37, oi_8, P_condition, P_emit, P_open, P_take, P_thing, P_want]; try dsimp only
        refine ⟨rfl, (by decide), (⟨_, _, _, g⟩), fun w5 τ5 hq5 => ?_⟩
        obtain ⟨r5, rfl, hq5⟩ := hq5
        rcases hq5 with ⟨rfl, hf5⟩ | ⟨rfl, hf5, hx5, hR5, hlt5, hro5⟩
        · dsimp only [Option.toList, List.cons_append, List.nil_append, Nat.beq, gI_sI, gI_sL, gI_sA, gI_sM, gL_sI, gL_sL, gL_sA, gL_sM, aI_sI, aI_sL, aI_sA, aI_sM, aL_sI, aL_sL, aL_sA, aL_sM, gI_em, gI_emx, gI_pu, gI_wh, gI_th, aI_em37, aI_em38, aI_em39, aI_em40, aI_em41, aI_em43, aI_em44, aI_em45, aI_em46, aI_em47, aI_em48, aI_em50, aI_em51, aI_em52, aI_em53, aI_em54, aI_em55, aI_em56, aI_em57, aI_em58, aI_em59, aI_em60, aI_em61, aI_em63, aI_em64, aI_em65]
          refine ⟨fun h6 => absurd h6 (by decide), fun h6 => ?_⟩
          clear h6
          apply hB
          dsimp only [rgo, rfd, BswitchOf, Nat.beq, rwp, rst, lv_args, rlk, rs1, rs2, rdl, rky, rct, rcs, rcd, rno, rsw, Value.category, List.filter, List.take, List.drop, List.reverse, List.reverseAux, List.cons_append, List.nil_append, Option.toList, Int.toNat, Int.reduceToNat, if_pos, if_neg, reduceIte, ↓reduceIte, Nat.reduceAdd, Nat.reduceEqDiff, Nat.reduceBEq, beq_self_eq_true, Bool.not_true, Bool.not_false, Bool.and_true, Bool.and_false, Bool.true_and, Bool.false_and, gI_sI, gI_sL, gI_sA, gI_sM, gL_sI, gL_sL, gL_sA, gL_sM, aI_sI, aI_sL, aI_sA, aI_sM, aL_sI, aL_sL, aL_sA, aL_sM, gI_em, gI_emx, gI_pu, gI_wh, gI_th, aI_em37, aI_em38, aI_em39, aI_em40, aI_em41, aI_em43, aI_em44, aI_em45, aI_em46, aI_em47, aI_em48, aI_em50, aI_em51, aI_em52, aI_em53, aI_em54, aI_em55, aI_em56, aI_em57, aI_em58, aI_em59, aI_em60, aI_em61, aI_em63, aI_em64, aI_em65, BswitchOf_0, BswitchOf_29, BswitchOf_36, BswitchOf_38, BswitchOf_61, BswitchOf_72, BswitchOf_76, BswitchOf_77, oi_0, oi_1, oi_123, oi_20, oi_37, oi_8, P_condition, P_emit, P_open, P_take, P_thing, P_want]; try dsimp only
          refine ⟨Or.inl rfl, ?_⟩
          exact ⟨_, rfl, Or.inl ⟨rfl, Fp.tr (by repeat (first | exact Fp.rf | (with_reducible refine Fp.vr ?_ ?_) | refine Fp.a ?_ rfl | refine Fp.i ?_ rfl | refine Fp.y ?_ rfl ⟨by lia, by lia⟩ | exact ⟨by lia, by lia⟩)) hf5.p⟩⟩
        · dsimp only [Option.toList, List.cons_append, List.nil_append, Nat.beq, gI_sI, gI_sL, gI_sA, gI_sM, gL_sI, gL_sL, gL_sA, gL_sM, aI_sI, aI_sL, aI_sA, aI_sM, aL_sI, aL_sL, aL_sA, aL_sM, gI_em, gI_emx, gI_pu, gI_wh, gI_th, aI_em37, aI_em38, aI_em39, aI_em40, aI_em41, aI_em43, aI_em44, aI_em45, aI_em46, aI_em47, aI_em48, aI_em50, aI_em51, aI_em52, aI_em53, aI_em54, aI_em55, aI_em56, aI_em57, aI_em58, aI_em59, aI_em60, aI_em61, aI_em63, aI_em64, aI_em65]
          have hpe5 := hx5 _ _ _ g
          have nne5 := hpe5.nums
          have hlz5 : gI σ 14 < gI τ5 14 := by have hlq : gI σ 14 + 1 < gI τ5 14 := hlt5; lia
          have e495 : gI τ5 49 = gI σ 49 + 1 := hf5.1 49 rfl
          have htk5 : gI σ 18 < gI τ5 18 := lt_nT (by lia) (by lia) (hpe5.tok (c := nT (gI σ 18)) (by simp)).1
          refine ⟨fun h7 => ?_, fun h7 => absurd h7 (by decide)⟩
          clear h7
          apply hB
          dsimp only [rgo, rfd, BswitchOf, Nat.beq, rwp, rst, lv_args, rlk, rs1, rs2, rdl, rky, rct, rcs, rcd, rno, rsw, Value.category, List.filter, List.take, List.drop, List.reverse, List.reverseAux, List.cons_append, List.nil_append, Option.toList, Int.toNat, Int.reduceToNat, if_pos, if_neg, reduceIte, ↓reduceIte, Nat.reduceAdd, Nat.reduceEqDiff, Nat.reduceBEq, beq_self_eq_true, Bool.not_true, Bool.not_false, Bool.and_true, Bool.and_false, Bool.true_and, Bool.false_and, gI_sI, gI_sL, gI_sA, gI_sM, gL_sI, gL_sL, gL_sA, gL_sM, aI_sI, aI_sL, aI_sA, aI_sM, aL_sI, aL_sL, aL_sA, aL_sM, gI_em, gI_emx, gI_pu, gI_wh, gI_th, aI_em37, aI_em38, aI_em39, aI_em40, aI_em41, aI_em43, aI_em44, aI_em45, aI_em46, aI_em47, aI_em48, aI_em50, aI_em51, aI_em52, aI_em53, aI_em54, aI_em55, aI_em56, aI_em57, aI_em58, aI_em59, aI_em60, aI_em61, aI_em63, aI_em64, aI_em65, BswitchOf_0, BswitchOf_29, BswitchOf_36, BswitchOf_38, BswitchOf_61, BswitchOf_72, BswitchOf_76, BswitchOf_77, oi_0, oi_1, oi_123, oi_20, oi_37, oi_8, P_condition, P_emit, P_open, P_take, P_thing, P_want]; try dsimp only
          refine ⟨rfl, rfl, (by decide), (⟨by lia, by lia⟩), fun w8 τ8 hq8 => ?_⟩
          obtain ⟨rfl, rfl⟩ := hq8
          dsimp only [Option.toList, List.cons_append, List.nil_append, Nat.beq, gI_sI, gI_sL, gI_sA, gI_sM, gL_sI, gL_sL, gL_sA, gL_sM, aI_sI, aI_sL, aI_sA, aI_sM, aL_sI, aL_sL, aL_sA, aL_sM, gI_em, gI_emx, gI_pu, gI_wh, gI_th, aI_em37, aI_em38, aI_em39, aI_em40, aI_em41, aI_em43, aI_em44, aI_em45, aI_em46, aI_em47, aI_em48, aI_em50, aI_em51, aI_em52, aI_em53, aI_em54, aI_em55, aI_em56, aI_em57, aI_em58, aI_em59, aI_em60, aI_em61, aI_em63, aI_em64, aI_em65]
          refine ⟨rfl, (in_52 (by lia) (by lia)), rfl, (by decide), (⟨by lia, by lia⟩), fun w9 τ9 hq9 => ?_⟩
          obtain ⟨r9, rfl, hq9⟩ := hq9
          rcases hq9 with ⟨rfl, hp9, hw9, rfl⟩ | ⟨rfl, fa9, fb9, rfl⟩
          · dsimp only [Option.toList, List.cons_append, List.nil_append, Nat.beq, gI_sI, gI_sL, gI_sA, gI_sM, gL_sI, gL_sL, gL_sA, gL_sM, aI_sI, aI_sL, aI_sA, aI_sM, aL_sI, aL_sL, aL_sA, aL_sM, gI_em, gI_emx, gI_pu, gI_wh, gI_th, aI_em37, aI_em38, aI_em39, aI_em40, aI_em41, aI_em43, aI_em44, aI_em45, aI_em46, aI_em47, aI_em48, aI_em50, aI_em51, aI_em52, aI_em53, aI_em54, aI_em55, aI_em56, aI_em57, aI_em58, aI_em59, aI_em60, aI_em61, aI_em63, aI_em64, aI_em65]
            try dsimp only [Option.toList, List.cons_append, List.nil_append, Nat.beq, gI_sI, gI_sL, gI_sA, gI_sM, gL_sI, gL_sL, gL_sA, gL_sM, aI_sI, aI_sL, aI_sA, aI_sM, aL_sI, aL_sL, aL_sA, aL_sM, gI_em, gI_emx, gI_pu, gI_wh, gI_th, aI_em37, aI_em38, aI_em39, aI_em40, aI_em41, aI_em43, aI_em44, aI_em45, aI_em46, aI_em47, aI_em48, aI_em50, aI_em51, aI_em52, aI_em53, aI_em54, aI_em55, aI_em56, aI_em57, aI_em58, aI_em59, aI_em60, aI_em61, aI_em63, aI_em64, aI_em65] at hp9
            refine ⟨fun h10 => absurd h10 (by decide), fun h10 => ?_⟩
            clear h10
            apply hB
            dsimp only [rgo, rfd, BswitchOf, Nat.beq, rwp, rst, lv_args, rlk, rs1, rs2, rdl, rky, rct, rcs, rcd, rno, rsw, Value.category, List.filter, List.take, List.drop, List.reverse, List.reverseAux, List.cons_append, List.nil_append, Option.toList, Int.toNat, Int.reduceToNat, if_pos, if_neg, reduceIte, ↓reduceIte, Nat.reduceAdd, Nat.reduceEqDiff, Nat.reduceBEq, beq_self_eq_true, Bool.not_true, Bool.not_false, Bool.and_true, Bool.and_false, Bool.true_and, Bool.false_and, gI_sI, gI_sL, gI_sA, gI_sM, gL_sI, gL_sL, gL_sA, gL_sM, aI_sI, aI_sL, aI_sA, aI_sM, aL_sI, aL_sL, aL_sA, aL_sM, gI_em, gI_emx, gI_pu, gI_wh, gI_th, aI_em37, aI_em38, aI_em39, aI_em40, aI_em41, aI_em43, aI_em44, aI_em45, aI_em46, aI_em47, aI_em48, aI_em50, aI_em51, aI_em52, aI_em53, aI_em54, aI_em55, aI_em56, aI_em57, aI_em58, aI_em59, aI_em60, aI_em61, aI_em63, aI_em64, aI_em65, BswitchOf_0, BswitchOf_29, BswitchOf_36, BswitchOf_38, BswitchOf_61, BswitchOf_72, BswitchOf_76, BswitchOf_77, oi_0, oi_1, oi_123, oi_20, oi_37, oi_8, P_condition, P_emit, P_open, P_take, P_thing, P_want]; try dsimp only
            refine ⟨rfl, (by decide), (⟨⟨by lia, by lia⟩, ⟨by lia, by lia⟩, ⟨by lia, by lia⟩⟩), fun w11 τ11 hq11 => ?_⟩
            obtain ⟨r11, rfl, hq11⟩ := hq11
            rcases hq11 with ⟨rfl, hd11, rfl⟩ | ⟨rfl, hf11⟩
            · dsimp only [Option.toList, List.cons_append, List.nil_append, Nat.beq, gI_sI, gI_sL, gI_sA, gI_sM, gL_sI, gL_sL, gL_sA, gL_sM, aI_sI, aI_sL, aI_sA, aI_sM, aL_sI, aL_sL, aL_sA, aL_sM, gI_em, gI_emx, gI_pu, gI_wh, gI_th, aI_em37, aI_em38, aI_em39, aI_em40, aI_em41, aI_em43, aI_em44, aI_em45, aI_em46, aI_em47, aI_em48, aI_em50, aI_em51, aI_em52, aI_em53, aI_em54, aI_em55, aI_em56, aI_em57, aI_em58, aI_em59, aI_em60, aI_em61, aI_em63, aI_em64, aI_em65]
              refine ⟨fun h12 => absurd h12 (by decide), fun h12 => ?_⟩
              clear h12
              apply hB
              dsimp only [rgo, rfd, BswitchOf, Nat.beq, rwp, rst, lv_args, rlk, rs1, rs2, rdl, rky, rct, rcs, rcd, rno, rsw, Value.category, List.filter, List.take, List.drop, List.reverse, List.reverseAux, List.cons_append, List.nil_append, Option.toList, Int.toNat, Int.reduceToNat, if_pos, if_neg, reduceIte, ↓reduceIte, Nat.reduceAdd, Nat.reduceEqDiff, Nat.reduceBEq, beq_self_eq_true, Bool.not_true, Bool.not_false, Bool.and_true, Bool.and_false, Bool.true_and, Bool.false_and, gI_sI, gI_sL, gI_sA, gI_sM, gL_sI, gL_sL, gL_sA, gL_sM, aI_sI, aI_sL, aI_sA, aI_sM, aL_sI, aL_sL, aL_sA, aL_sM, gI_em, gI_emx, gI_pu, gI_wh, gI_th, aI_em37, aI_em38, aI_em39, aI_em40, aI_em41, aI_em43, aI_em44, aI_em45, aI_em46, aI_em47, aI_em48, aI_em50, aI_em51, aI_em52, aI_em53, aI_em54, aI_em55, aI_em56, aI_em57, aI_em58, aI_em59, aI_em60, aI_em61, aI_em63, aI_em64, aI_em65, BswitchOf_0, BswitchOf_29, BswitchOf_36, BswitchOf_38, BswitchOf_61, BswitchOf_72, BswitchOf_76, BswitchOf_77, oi_0, oi_1, oi_123, oi_20, oi_37, oi_8, P_condition, P_emit, P_open, P_take, P_thing, P_want]; try dsimp only
              apply hB
              dsimp only [rgo, rfd, BswitchOf, Nat.beq, rwp, rst, lv_args, rlk, rs1, rs2, rdl, rky, rct, rcs, rcd, rno, rsw, Value.category, List.filter, List.take, List.drop, List.reverse, List.reverseAux, List.cons_append, List.nil_append, Option.toList, Int.toNat, Int.reduceToNat, if_pos, if_neg, reduceIte, ↓reduceIte, Nat.reduceAdd, Nat.reduceEqDiff, Nat.reduceBEq, beq_self_eq_true, Bool.not_true, Bool.not_false, Bool.and_true, Bool.and_false, Bool.true_and, Bool.false_and, gI_sI, gI_sL, gI_sA, gI_sM, gL_sI, gL_sL, gL_sA, gL_sM, aI_sI, aI_sL, aI_sA, aI_sM, aL_sI, aL_sL, aL_sA, aL_sM, gI_em, gI_emx, gI_pu, gI_wh, gI_th, aI_em37, aI_em38, aI_em39, aI_em40, aI_em41, aI_em43, aI_em44, aI_em45, aI_em46, aI_em47, aI_em48, aI_em50, aI_em51, aI_em52, aI_em53, aI_em54, aI_em55, aI_em56, aI_em57, aI_em58, aI_em59, aI_em60, aI_em61, aI_em63, aI_em64, aI_em65, BswitchOf_0, BswitchOf_29, BswitchOf_36, BswitchOf_38, BswitchOf_61, BswitchOf_72, BswitchOf_76, BswitchOf_77, oi_0, oi_1, oi_123, oi_20, oi_37, oi_8, P_condition, P_emit, P_open, P_take, P_thing, P_want]; try dsimp only
              refine ⟨Or.inr rfl, ?_⟩
              refine ⟨_, rfl, Or.inr ⟨rfl, (Fp.tr (by repeat (first | exact Fp.rf | (with_reducible refine Fp.vr ?_ ?_) | refine Fp.a ?_ rfl | refine Fp.i ?_ rfl | refine Fp.y ?_ rfl ⟨by lia, by lia⟩ | exact ⟨by lia, by lia⟩)) hf5.p).tr (by repeat (first | exact Fp.rf | (with_reducible refine Fp.vr ?_ ?_) | refine Fp.a ?_ rfl | refine Fp.i ?_ rfl | refine Fp.y ?_ rfl ⟨by lia, by lia⟩ | exact ⟨by lia, by lia⟩)), ?_, ?_, ?_⟩⟩
              · intro mn k j hσ hk hj
                have b1 := hσ.step (gI σ 14) nn.1 (by omega)
                have hjt : 1 ≤ j := by omega
                have b2 := b1.thg 8 (gI σ 14) hjt (by decide) nn.1
                have b3 := b2.1.take (by assumption) rfl (k + (-5)) (j + (0)) ⟨by omega, by omega⟩ ⟨by omega, by omega⟩
                have b4 := hx5 _ _ _ b3
                have b5 := b4.swb (gI σ 49) (gI σ 14) (hR5 _ (b2.2)) ⟨nn.2.2.2.2.1.1, by show gI σ 49 < gI τ5 49; lia⟩ nn.1 (by omega) 
                have b6 := b5.take (by assumption) rfl (k + (-10)) (j + (1)) ⟨by omega, by omega⟩ ⟨by omega, by omega⟩
                have b7 := b6.fop 8 (gI σ 49) (gI σ 18) (by omega) (by assumption) (by decide) ⟨nn.2.2.2.2.1.1, by show gI σ 49 < gI τ5 49; lia⟩ (fun _ => ⟨nn.2.1.1, by show gI σ 18 < gI τ5 18 + 1; lia⟩)
                have b8 := b7.wk k j ⟨by omega, by omega⟩ ⟨by omega, by omega⟩
                rw [FF_fo, FF_sI (k := 14) (by omega), FF_sA (k := 52) (by omega), FF_em, FF_ff hf5.f, FF_sI (k := 14) (by omega), FF_th, FF_em]
                · rw [fit8]
                  exact b8
                · exact nne5.2.2.2.2.2.1
              · refine MF.fop ?_ (by decide) ?_
                · exact MF.of (MF.ff hf5.f (MF.of hMF rfl rfl rfl)) rfl rfl rfl
                · exact nne5.2.2.2.2.2.1
              · show gI σ 14 < gI τ5 14 + 1
                lia
            · dsimp only [Option.toList, List.cons_append, List.nil_append, Nat.beq, gI_sI, gI_sL, gI_sA, gI_sM, gL_sI, gL_sL, gL_sA, gL_sM, aI_sI, aI_sL, aI_sA, aI_sM, aL_sI, aL_sL, aL_sA, aL_sM, gI_em, gI_emx, gI_pu, gI_wh, gI_th, aI_em37, aI_em38, aI_em39, aI_em40, aI_em41, aI_em43, aI_em44, aI_em45, aI_em46, aI_em47, aI_em48, aI_em50, aI_em51, aI_em52, aI_em53, aI_em54, aI_em55, aI_em56, aI_em57, aI_em58, aI_em59, aI_em60, aI_em61, aI_em63, aI_em64, aI_em65]
              refine ⟨fun h13 => ?_, fun h13 => absurd h13 (by decide)⟩
              clear h13
              apply hB
              dsimp only [rgo, rfd, BswitchOf, Nat.beq, rwp, rst, lv_args, rlk, rs1, rs2, rdl, rky, rct, rcs, rcd, rno, rsw, Value.category, List.filter, List.take, List.drop, List.reverse, List.reverseAux, List.cons_append, List.nil_append, Option.toList, Int.toNat, Int.reduceToNat, if_pos, if_neg, reduceIte, ↓reduceIte, Nat.reduceAdd, Nat.reduceEqDiff, Nat.reduceBEq, beq_self_eq_true, Bool.not_true, Bool.not_false, Bool.and_true, Bool.and_false, Bool.true_and, Bool.false_and, gI_sI, gI_sL, gI_sA, gI_sM, gL_sI, gL_sL, gL_sA, gL_sM, aI_sI, aI_sL, aI_sA, aI_sM, aL_sI, aL_sL, aL_sA, aL_sM, gI_em, gI_emx, gI_pu, gI_wh, gI_th, aI_em37, aI_em38, aI_em39, aI_em40, aI_em41, aI_em43, aI_em44, aI_em45, aI_em46, aI_em47, aI_em48, aI_em50, aI_em51, aI_em52, aI_em53, aI_em54, aI_em55, aI_em56, aI_em57, aI_em58, aI_em59, aI_em60, aI_em61, aI_em63, aI_em64, aI_em65, BswitchOf_0, BswitchOf_29, BswitchOf_36, BswitchOf_38, BswitchOf_61, BswitchOf_72, BswitchOf_76, BswitchOf_77, oi_0, oi_1, oi_123, oi_20, oi_37, oi_8, P_condition, P_emit, P_open, P_take, P_thing, P_want]; try dsimp only
              apply hB
              dsimp only [rgo, rfd, BswitchOf, Nat.beq, rwp, rst, lv_args, rlk, rs1, rs2, rdl, rky, rct, rcs, rcd, rno, rsw, Value.category, List.filter, List.take, List.drop, List.reverse, List.reverseAux, List.cons_append, List.nil_append, Option.toList, Int.toNat, Int.reduceToNat, if_pos, if_neg, reduceIte, ↓reduceIte, Nat.reduceAdd, Nat.reduceEqDiff, Nat.reduceBEq, beq_self_eq_true, Bool.not_true, Bool.not_false, Bool.and_true, Bool.and_false, Bool.true_and, Bool.false_and, gI_sI, gI_sL, gI_sA, gI_sM, gL_sI, gL_sL, gL_sA, gL_sM, aI_sI, aI_sL, aI_sA, aI_sM, aL_sI, aL_sL, aL_sA, aL_sM, gI_em, gI_emx, gI_pu, gI_wh, gI_th, aI_em37, aI_em38, aI_em39, aI_em40, aI_em41, aI_em43, aI_em44, aI_em45, aI_em46, aI_em47, aI_em48, aI_em50, aI_em51, aI_em52, aI_em53, aI_em54, aI_em55, aI_em56, aI_em57, aI_em58, aI_em59, aI_em60, aI_em61, aI_em63, aI_em64, aI_em65, BswitchOf_0, BswitchOf_29, BswitchOf_36, BswitchOf_38, BswitchOf_61, BswitchOf_72, BswitchOf_76, BswitchOf_77, oi_0, oi_1, oi_123, oi_20, oi_37, oi_8, P_condition, P_emit, P_open, P_take, P_thing, P_want]; try dsimp only
              refine ⟨Or.inl rfl, ?_⟩
              exact ⟨_, rfl, Or.inl ⟨rfl, Fp.tr ((Fp.tr (by repeat (first | exact Fp.rf | (with_reducible refine Fp.vr ?_ ?_) | refine Fp.a ?_ rfl | refine Fp.i ?_ rfl | refine Fp.y ?_ rfl ⟨by lia, by lia⟩ | exact ⟨by lia, by lia⟩)) hf5.p).tr (by repeat (first | exact Fp.rf | (with_reducible refine Fp.vr ?_ ?_) | refine Fp.a ?_ rfl | refine Fp.i ?_ rfl | refine Fp.y ?_ rfl ⟨by lia, by lia⟩ | exact ⟨by lia, by lia⟩))) hf11⟩⟩
          · dsimp only [Option.toList, List.cons_append, List.nil_append, Nat.beq, gI_sI, gI_sL, gI_sA, gI_sM, gL_sI, gL_sL, gL_sA, gL_sM, aI_sI, aI_sL, aI_sA, aI_sM, aL_sI, aL_sL, aL_sA, aL_sM, gI_em, gI_emx, gI_pu, gI_wh, gI_th, aI_em37, aI_em38, aI_em39, aI_em40, aI_em41, aI_em43, aI_em44, aI_em45, aI_em46, aI_em47, aI_em48, aI_em50, aI_em51, aI_em52, aI_em53, aI_em54, aI_em55, aI_em56, aI_em57, aI_em58, aI_em59, aI_em60, aI_em61, aI_em63, aI_em64, aI_em65]
            refine ⟨fun h14 => ?_, fun h14 => absurd h14 (by decide)⟩
            clear h14
            apply hB
            dsimp only [rgo, rfd, BswitchOf, Nat.beq, rwp, rst, lv_args, rlk, rs1, rs2, rdl, rky, rct, rcs, rcd, rno, rsw, Value.category, List.filter, List.take, List.drop, List.reverse, List.reverseAux, List.cons_append, List.nil_append, Option.toList, Int.toNat, Int.reduceToNat, if_pos, if_neg, reduceIte, ↓reduceIte, Nat.reduceAdd, Nat.reduceEqDiff, Nat.reduceBEq, beq_self_eq_true, Bool.not_true, Bool.not_false, Bool.and_true, Bool.and_false, Bool.true_and, Bool.false_and, gI_sI, gI_sL, gI_sA, gI_sM, gL_sI, gL_sL, gL_sA, gL_sM, aI_sI, aI_sL, aI_sA, aI_sM, aL_sI, aL_sL, aL_sA, aL_sM, gI_em, gI_emx, gI_pu, gI_wh, gI_th, aI_em37, aI_em38, aI_em39, aI_em40, aI_em41, aI_em43, aI_em44, aI_em45, aI_em46, aI_em47, aI_em48, aI_em50, aI_em51, aI_em52, aI_em53, aI_em54, aI_em55, aI_em56, aI_em57, aI_em58, aI_em59, aI_em60, aI_em61, aI_em63, aI_em64, aI_em65, BswitchOf_0, BswitchOf_29, BswitchOf_36, BswitchOf_38, BswitchOf_61, BswitchOf_72, BswitchOf_76, BswitchOf_77, oi_0, oi_1, oi_123, oi_20, oi_37, oi_8, P_condition, P_emit, P_open, P_take, P_thing, P_want]; try dsimp only
            apply hB
            dsimp only [rgo, rfd, BswitchOf, Nat.beq, rwp, rst, lv_args, rlk, rs1, rs2, rdl, rky, rct, rcs, rcd, rno, rsw, Value.category, List.filter, List.take, List.drop, List.reverse, List.reverseAux, List.cons_append, List.nil_append, Option.toList, Int.toNat, Int.reduceToNat, if_pos, if_neg, reduceIte, ↓reduceIte, Nat.reduceAdd, Nat.reduceEqDiff, Nat.reduceBEq, beq_self_eq_true, Bool.not_true, Bool.not_false, Bool.and_true, Bool.and_false, Bool.true_and, Bool.false_and, gI_sI, gI_sL, gI_sA, gI_sM, gL_sI, gL_sL, gL_sA, gL_sM, aI_sI, aI_sL, aI_sA, aI_sM, aL_sI, aL_sL, aL_sA, aL_sM, gI_em, gI_emx, gI_pu, gI_wh, gI_th, aI_em37, aI_em38, aI_em39, aI_em40, aI_em41, aI_em43, aI_em44, aI_em45, aI_em46, aI_em47, aI_em48, aI_em50, aI_em51, aI_em52, aI_em53, aI_em54, aI_em55, aI_em56, aI_em57, aI_em58, aI_em59, aI_em60, aI_em61, aI_em63, aI_em64, aI_em65, BswitchOf_0, BswitchOf_29, BswitchOf_36, BswitchOf_38, BswitchOf_61, BswitchOf_72, BswitchOf_76, BswitchOf_77, oi_0, oi_1, oi_123, oi_20, oi_37, oi_8, P_condition, P_emit, P_open, P_take, P_thing, P_want]; try dsimp only
            refine ⟨Or.inl rfl, ?_⟩
            exact ⟨_, rfl, Or.inl ⟨rfl, (Fp.tr (by repeat (first | exact Fp.rf | (with_reducible refine Fp.vr ?_ ?_) | refine Fp.a ?_ rfl | refine Fp.i ?_ rfl | refine Fp.y ?_ rfl ⟨by lia, by lia⟩ | exact ⟨by lia, by lia⟩)) hf5.p).tr (by repeat (first | exact Fp.rf | (with_reducible refine Fp.vr ?_ ?_) | refine Fp.a ?_ rfl | refine Fp.i ?_ rfl | refine Fp.y ?_ rfl ⟨by lia, by lia⟩ | exact ⟨by lia, by lia⟩))⟩⟩
      · dsimp only [Option.toList, List.cons_append, List.nil_append, Nat.beq, gI_sI, gI_sL, gI_sA, gI_sM, gL_sI, gL_sL, gL_sA, gL_sM, aI_sI, aI_sL, aI_sA, aI_sM, aL_sI, aL_sL, aL_sA, aL_sM, gI_em, gI_emx, gI_pu, gI_wh, gI_th, aI_em37, aI_em38, aI_em39, aI_em40, aI_em41, aI_em43, aI_em44, aI_em45, aI_em46, aI_em47, aI_em48, aI_em50, aI_em51, aI_em52, aI_em53, aI_em54, aI_em55, aI_em56, aI_em57, aI_em58, aI_em59, aI_em60, aI_em61, aI_em63, aI_em64, aI_em65]
        refine ⟨fun h15 => ?_, fun h15 => absurd h15 (by decide)⟩
        clear h15
        apply hB
        dsimp only [rgo, rfd, BswitchOf, Nat.beq, rwp, rst, lv_args, rlk, rs1, rs2, rdl, rky, rct, rcs, rcd, rno, rsw, Value.category, List.filter, List.take, List.drop, List.reverse, List.reverseAux, List.cons_append, List.nil_append, Option.toList, Int.toNat, Int.reduceToNat, if_pos, if_neg, reduceIte, ↓reduceIte, Nat.reduceAdd, Nat.reduceEqDiff, Nat.reduceBEq, beq_self_eq_true, Bool.not_true, Bool.not_false, Bool.and_true, Bool.and_false, Bool.true_and, Bool.false_and, gI_sI, gI_sL, gI_sA, gI_sM, gL_sI, gL_sL, gL_sA, gL_sM, aI_sI, aI_sL, aI_sA, aI_sM, aL_sI, aL_sL, aL_sA, aL_sM, gI_em, gI_emx, gI_pu, gI_wh, gI_th, aI_em37, aI_em38, aI_em39, aI_em40, aI_em41, aI_em43, aI_em44, aI_em45, aI_em46, aI_em47, aI_em48, aI_em50, aI_em51, aI_em52, aI_em53, aI_em54, aI_em55, aI_em56, aI_em57, aI_em58, aI_em59, aI_em60, aI_em61, aI_em63, aI_em64, aI_em65, BswitchOf_0, BswitchOf_29, BswitchOf_36, BswitchOf_38, BswitchOf_61, BswitchOf_72, BswitchOf_76, BswitchOf_77, oi_0, oi_1, oi_123, oi_20, oi_37, oi_8, P_condition, P_emit, P_open, P_take, P_thing, P_want]; try dsimp only
        refine ⟨Or.inl rfl, ?_⟩
        exact ⟨_, rfl, Or.inl ⟨rfl, by repeat (first | exact Fp.rf | (with_reducible refine Fp.vr ?_ ?_) | refine Fp.a ?_ rfl | refine Fp.i ?_ rfl | refine Fp.y ?_ rfl ⟨by lia, by lia⟩ | exact ⟨by lia, by lia⟩)⟩⟩
    next => exact hP.elim
theorem m_switchOf (l : Launch) : RMet l 8 58 P_switchOf Q_switchOf := by
  refine RMet.by BswitchOf [(52, P_condition, Q_condition), (20, P_emit, Q_emit), (36, P_open, Q_open), (17, P_take, Q_take), (35, P_thing, Q_thing), (18, P_want, Q_want)] roswitchOf okBswitchOf (ctc (m_condition l) (by decide) (ctc (m_emit l) (by decide) (ctc (m_open l) (by decide) (ctc (m_take l) (by decide) (ctc (m_thing l) (by decide) (ctc (m_want l) (by decide) ct0)))))) ?_ b_switchOf
  · intro As σ hP
    unfold P_switchOf at hP
    split at hP
    next => exact Nat.le_of_ble_eq_true rfl
    next => exact hP.elim
set_option maxRecDepth 100000 in
theorem e_switchOf (l : Launch) : RMetE l 8 58 P_switchOf Q_switchOf := by
  refine RMetE.by BswitchOf [(52, P_condition, Q_condition), (20, P_emit, Q_emit), (36, P_open, Q_open), (17, P_take, Q_take), (35, P_thing, Q_thing), (18, P_want, Q_want)] rfl rfl roswitchOf okBswitchOf (ctEc (e_condition l) (by decide) (ctEc (e_emit l) (by decide) (ctEc (e_open l) (by decide) (ctEc (e_take l) (by decide) (ctEc (e_thing l) (by decide) (ctEc (e_want l) (by decide) ctE0)))))) ?_ b_switchOf
  · intro As σ hP
    unfold P_switchOf at hP
    split at hP
    next => exact Nat.le_of_ble_eq_true rfl
    next => exact hP.elim
def P_tryOf : RP := fun As σ => match As with
  | [] => ∃ mn k j, PI σ [] (FF σ, mn) k j ∧ k ≤ 12 ∧ 1 ≤ j ∧ MF σ
  | _ => False
def Q_tryOf : RQ := fun As σ w τ => match As with
  | [] => ∃ r : Int32, w = some (.int r) ∧ ((r = 0 ∧ Fp σ τ) ∨ (r = 1 ∧ Fp σ τ ∧ (∀ mn k j, PI σ [] (FF σ, mn) k j → k ≤ 12 → 1 ≤ j → PI τ [] (FF τ, mn) k j) ∧ MF τ ∧ (gI σ 14) < (gI τ 14)))
  | _ => False
set_option maxRecDepth 100000 in
set_option maxHeartbeats 4000000 in
theorem b_tryOf : Bod BtryOf [(20, P_emit, Q_emit), (36, P_open, Q_open), (17, P_take, Q_take), (35, P_thing, Q_thing), (18, P_want, Q_want)] P_tryOf Q_tryOf := by
  · intro As σ hP G hB hW
    unfold P_tryOf at hP
    split at hP
    next => 
      unfold Q_tryOf at hB
      dsimp only at hB
      obtain ⟨mm, kk, jj, hPJ, hkk, hjj, hMF⟩ := hP
      have nn := PI.nums hPJ
      apply hB
      dsimp only [rgo, rfd, BtryOf, Nat.beq, rwp, rst, lv_args, rlk, rs1, rs2, rdl, rky, rct, rcs, rcd, rno, rsw, Value.category, List.filter, List.take, List.drop, List.reverse, List.reverseAux, List.cons_append, List.nil_append, Option.toList, Int.toNat, Int.reduceToNat, if_pos, if_neg, reduceIte, ↓reduceIte, Nat.reduceAdd, Nat.reduceEqDiff, Nat.reduceBEq, beq_self_eq_true, Bool.not_true, Bool.not_false, Bool.and_true, Bool.and_false, Bool.true_and, Bool.false_and, gI_sI, gI_sL, gI_sA, gI_sM, gL_sI, gL_sL, gL_sA, gL_sM, aI_sI, aI_sL, aI_sA, aI_sM, aL_sI, aL_sL, aL_sA, aL_sM, gI_em, gI_emx, gI_pu, gI_wh, gI_th, aI_em37, aI_em38, aI_em39, aI_em40, aI_em41, aI_em43, aI_em44, aI_em45, aI_em46, aI_em47, aI_em48, aI_em50, aI_em51, aI_em52, aI_em53, aI_em54, aI_em55, aI_em56, aI_em57, aI_em58, aI_em59, aI_em60, aI_em61, aI_em63, aI_em64, aI_em65, BtryOf_0, BtryOf_29, BtryOf_31, BtryOf_49, BtryOf_60, BtryOf_64, BtryOf_65, oi_0, oi_1, oi_123, oi_20, oi_50, oi_9, P_emit, P_open, P_take, P_thing, P_want]; try dsimp only
      refine ⟨rfl, rfl, (by decide), (⟨by lia, by lia⟩), fun w1 τ1 hq1 => ?_⟩
      obtain ⟨rfl, rfl⟩ := hq1
      dsimp only [Option.toList, List.cons_append, List.nil_append, Nat.beq, gI_sI, gI_sL, gI_sA, gI_sM, gL_sI, gL_sL, gL_sA, gL_sM, aI_sI, aI_sL, aI_sA, aI_sM, aL_sI, aL_sL, aL_sA, aL_sM, gI_em, gI_emx, gI_pu, gI_wh, gI_th, aI_em37, aI_em38, aI_em39, aI_em40, aI_em41, aI_em43, aI_em44, aI_em45, aI_em46, aI_em47, aI_em48, aI_em50, aI_em51, aI_em52, aI_em53, aI_em54, aI_em55, aI_em56, aI_em57, aI_em58, aI_em59, aI_em60, aI_em61, aI_em63, aI_em64, aI_em65]
      refine ⟨rfl, (by decide), (⟨by lia, by lia⟩), fun w2 τ2 hq2 => ?_⟩
      obtain ⟨rfl, rfl⟩ := hq2
      dsimp only [Option.toList, List.cons_append, List.nil_append, Nat.beq, gI_sI, gI_sL, gI_sA, gI_sM, gL_sI, gL_sL, gL_sA, gL_sM, aI_sI, aI_sL, aI_sA, aI_sM, aL_sI, aL_sL, aL_sA, aL_sM, gI_em, gI_emx, gI_pu, gI_wh, gI_th, aI_em37, aI_em38, aI_em39, aI_em40, aI_em41, aI_em43, aI_em44, aI_em45, aI_em46, aI_em47, aI_em48, aI_em50, aI_em51, aI_em52, aI_em53, aI_em54, aI_em55, aI_em56, aI_em57, aI_em58, aI_em59, aI_em60, aI_em61, aI_em63, aI_em64, aI_em65]
      refine ⟨rfl, (by decide), (⟨by lia, by lia⟩), fun w3 τ3 hq3 => ?_⟩
      obtain ⟨r3, rfl, hq3⟩ := hq3
      rcases hq3 with ⟨rfl, hp3, rfl⟩ | ⟨rfl, fa3, fb3, rfl⟩
      · dsimp only [Option.toList, List.cons_append, List.nil_append, Nat.beq, gI_sI, gI_sL, gI_sA, gI_sM, gL_sI, gL_sL, gL_sA, gL_sM, aI_sI, aI_sL, aI_sA, aI_sM, aL_sI, aL_sL, aL_sA, aL_sM, gI_em, gI_emx, gI_pu, gI_wh, gI_th, aI_em37, aI_em38, aI_em39, aI_em40, aI_em41, aI_em43, aI_em44, aI_em45, aI_em46, aI_em47, aI_em48, aI_em50, aI_em51, aI_em52, aI_em53, aI_em54, aI_em55, aI_em56, aI_em57, aI_em58, aI_em59, aI_em60, aI_em61, aI_em63, aI_em64, aI_em65]
        try dsimp only [Option.toList, List.cons_append, List.nil_append, Nat.beq, gI_sI, gI_sL, gI_sA, gI_sM, gL_sI, gL_sL, gL_sA, gL_sM, aI_sI, aI_sL, aI_sA, aI_sM, aL_sI, aL_sL, aL_sA, aL_sM, gI_em, gI_emx, gI_pu, gI_wh, gI_th, aI_em37, aI_em38, aI_em39, aI_em40, aI_em41, aI_em43, aI_em44, aI_em45, aI_em46, aI_em47, aI_em48, aI_em50, aI_em51, aI_em52, aI_em53, aI_em54, aI_em55, aI_em56, aI_em57, aI_em58, aI_em59, aI_em60, aI_em61, aI_em63, aI_em64, aI_em65] at hp3
        refine ⟨fun h4 => ?_, fun h4 => absurd h4 (by decide)⟩
        clear h4
        apply hB
        dsimp only [rgo, rfd, BtryOf, Nat.beq, rwp, rst, lv_args, rlk, rs1, rs2, rdl, rky, rct, rcs, rcd, rno, rsw, Value.category, List.filter, List.take, List.drop, List.reverse, List.reverseAux, List.cons_append, List.nil_append, Option.toList, Int.toNat, Int.reduceToNat, if_pos, if_neg, reduceIte, ↓reduceIte, Nat.reduceAdd, Nat.reduceEqDiff, Nat.reduceBEq, beq_self_eq_true, Bool.not_true, Bool.not_false, Bool.and_true, Bool.and_false, Bool.true_and, Bool.false_and, gI_sI, gI_sL, gI_sA, gI_sM, gL_sI, gL_sL, gL_sA, gL_sM, aI_sI, aI_sL, aI_sA, aI_sM, aL_sI, aL_sL, aL_sA, aL_sM, gI_em, gI_emx, gI_pu, gI_wh, gI_th, aI_em37, aI_em38, aI_em39, aI_em40, aI_em41, aI_em43, aI_em44, aI_em45, aI_em46, aI_em47, aI_em48, aI_em50, aI_em51, aI_em52, aI_em53, aI_em54, aI_em55, aI_em56, aI_em57, aI_em58, aI_em59, aI_em60, aI_em61, aI_em63, aI_em64, aI_em65, BtryOf_0, BtryOf_29, BtryOf_31, BtryOf_49, BtryOf_60, BtryOf_64, BtryOf_65, oi_0, oi_1, oi_123, oi_20, oi_50, oi_9, P_emit, P_open, P_take, P_thing, P_want]; try dsimp only
        refine ⟨rfl, (by decide), (⟨by lia, by lia⟩), fun w5 τ5 hq5 => ?_⟩
        obtain ⟨rfl, rfl⟩ := hq5
        dsimp only [Option.toList, List.cons_append, List.nil_append, Nat.beq, gI_sI, gI_sL, gI_sA, gI_sM, gL_sI, gL_sL, gL_sA, gL_sM, aI_sI, aI_sL, aI_sA, aI_sM, aL_sI, aL_sL, aL_sA, aL_sM, gI_em, gI_emx, gI_pu, gI_wh, gI_th, aI_em37, aI_em38, aI_em39, aI_em40, aI_em41, aI_em43, aI_em44, aI_em45, aI_em46, aI_em47, aI_em48, aI_em50, aI_em51, aI_em52, aI_em53, aI_em54, aI_em55, aI_em56, aI_em57, aI_em58, aI_em59, aI_em60, aI_em61, aI_em63, aI_em64, aI_em65]
        refine ⟨rfl, (by decide), (⟨by lia, by lia⟩), fun w6 τ6 hq6 => ?_⟩
        obtain ⟨r6, rfl, hq6⟩ := hq6
        rcases hq6 with ⟨rfl, hp6, hw6, rfl⟩ | ⟨rfl, fa6, fb6, rfl⟩
        · dsimp only [Option.toList, List.cons_append, List.nil_append, Nat.beq, gI_sI, gI_sL, gI_sA, gI_sM, gL_sI, gL_sL, gL_sA, gL_sM, aI_sI, aI_sL, aI_sA, aI_sM, aL_sI, aL_sL, aL_sA, aL_sM, gI_em, gI_emx, gI_pu, gI_wh, gI_th, aI_em37, aI_em38, aI_em39, aI_em40, aI_em41, aI_em43, aI_em44, aI_em45, aI_em46, aI_em47, aI_em48, aI_em50, aI_em51, aI_em52, aI_em53, aI_em54, aI_em55, aI_em56, aI_em57, aI_em58, aI_em59, aI_em60, aI_em61, aI_em63, aI_em64, aI_em65]
          try dsimp only [Option.toList, List.cons_append, List.nil_append, Nat.beq, gI_sI, gI_sL, gI_sA, gI_sM, gL_sI, gL_sL, gL_sA, gL_sM, aI_sI, aI_sL, aI_sA, aI_sM, aL_sI, aL_sL, aL_sA, aL_sM, gI_em, gI_emx, gI_pu, gI_wh, gI_th, aI_em37, aI_em38, aI_em39, aI_em40, aI_em41, aI_em43, aI_em44, aI_em45, aI_em46, aI_em47, aI_em48, aI_em50, aI_em51, aI_em52, aI_em53, aI_em54, aI_em55, aI_em56, aI_em57, aI_em58, aI_em59, aI_em60, aI_em61, aI_em63, aI_em64, aI_em65] at hp6
          refine ⟨fun h7 => absurd h7 (by decide), fun h7 => ?_⟩
          clear h7
          apply hB
          dsimp only [rgo, rfd, BtryOf, Nat.beq, rwp, rst, lv_args, rlk, rs1, rs2, rdl, rky, rct, rcs, rcd, rno, rsw, Value.category, List.filter, List.take, List.drop, List.reverse, List.reverseAux, List.cons_append, List.nil_append, Option.toList, Int.toNat, Int.reduceToNat, if_pos, if_neg, reduceIte, ↓reduceIte, Nat.reduceAdd, Nat.reduceEqDiff, Nat.reduceBEq, beq_self_eq_true, Bool.not_true, Bool.not_false, Bool.and_true, Bool.and_false, Bool.true_and, Bool.false_and, gI_sI, gI_sL, gI_sA, gI_sM, gL_sI, gL_sL, gL_sA, gL_sM, aI_sI, aI_sL, aI_sA, aI_sM, aL_sI, aL_sL, aL_sA, aL_sM, gI_em, gI_emx, gI_pu, gI_wh, gI_th, aI_em37, aI_em38, aI_em39, aI_em40, aI_em41, aI_em43, aI_em44, aI_em45, aI_em46, aI_em47, aI_em48, aI_em50, aI_em51, aI_em52, aI_em53, aI_em54, aI_em55, aI_em56, aI_em57, aI_em58, aI_em59, aI_em60, aI_em61, aI_em63, aI_em64, aI_em65, BtryOf_0, BtryOf_29, BtryOf_31, BtryOf_49, BtryOf_60, BtryOf_64, BtryOf_65, oi_0, oi_1, oi_123, oi_20, oi_50, oi_9, P_emit, P_open, P_take, P_thing, P_want]; try dsimp only
          refine ⟨rfl, (by decide), (⟨⟨by lia, by lia⟩, ⟨by lia, by lia⟩, ⟨by lia, by lia⟩⟩), fun w8 τ8 hq8 => ?_⟩
          obtain ⟨r8, rfl, hq8⟩ := hq8
          rcases hq8 with ⟨rfl, hd8, rfl⟩ | ⟨rfl, hf8⟩
          · dsimp only [Option.toList, List.cons_append, List.nil_append, Nat.beq, gI_sI, gI_sL, gI_sA, gI_sM, gL_sI, gL_sL, gL_sA, gL_sM, aI_sI, aI_sL, aI_sA, aI_sM, aL_sI, aL_sL, aL_sA, aL_sM, gI_em, gI_emx, gI_pu, gI_wh, gI_th, aI_em37, aI_em38, aI_em39, aI_em40, aI_em41, aI_em43, aI_em44, aI_em45, aI_em46, aI_em47, aI_em48, aI_em50, aI_em51, aI_em52, aI_em53, aI_em54, aI_em55, aI_em56, aI_em57, aI_em58, aI_em59, aI_em60, aI_em61, aI_em63, aI_em64, aI_em65]
            refine ⟨fun h9 => absurd h9 (by decide), fun h9 => ?_⟩
            clear h9
            apply hB
            dsimp only [rgo, rfd, BtryOf, Nat.beq, rwp, rst, lv_args, rlk, rs1, rs2, rdl, rky, rct, rcs, rcd, rno, rsw, Value.category, List.filter, List.take, List.drop, List.reverse, List.reverseAux, List.cons_append, List.nil_append, Option.toList, Int.toNat, Int.reduceToNat, if_pos, if_neg, reduceIte, ↓reduceIte, Nat.reduceAdd, Nat.reduceEqDiff, Nat.reduceBEq, beq_self_eq_true, Bool.not_true, Bool.not_false, Bool.and_true, Bool.and_false, Bool.true_and, Bool.false_and, gI_sI, gI_sL, gI_sA, gI_sM, gL_sI, gL_sL, gL_sA, gL_sM, aI_sI, aI_sL, aI_sA, aI_sM, aL_sI, aL_sL, aL_sA, aL_sM, gI_em, gI_emx, gI_pu, gI_wh, gI_th, aI_em37, aI_em38, aI_em39, aI_em40, aI_em41, aI_em43, aI_em44, aI_em45, aI_em46, aI_em47, aI_em48, aI_em50, aI_em51, aI_em52, aI_em53, aI_em54, aI_em55, aI_em56, aI_em57, aI_em58, aI_em59, aI_em60, aI_em61, aI_em63, aI_em64, aI_em65, BtryOf_0, BtryOf_29, BtryOf_31, BtryOf_49, BtryOf_60, BtryOf_64, BtryOf_65, oi_0, oi_1, oi_123, oi_20, oi_50, oi_9, P_emit, P_open, P_take, P_thing, P_want]; try dsimp only
            apply hB
            dsimp only [rgo, rfd, BtryOf, Nat.beq, rwp, rst, lv_args, rlk, rs1, rs2, rdl, rky, rct, rcs, rcd, rno, rsw, Value.category, List.filter, List.take, List.drop, List.reverse, List.reverseAux, List.cons_append, List.nil_append, Option.toList, Int.toNat, Int.reduceToNat, if_pos, if_neg, reduceIte, ↓reduceIte, Nat.reduceAdd, Nat.reduceEqDiff, Nat.reduceBEq, beq_self_eq_true, Bool.not_true, Bool.not_false, Bool.and_true, Bool.and_false, Bool.true_and, Bool.false_and, gI_sI, gI_sL, gI_sA, gI_sM, gL_sI, gL_sL, gL_sA, gL_sM, aI_sI, aI_sL, aI_sA, aI_sM, aL_sI, aL_sL, aL_sA, aL_sM, gI_em, gI_emx, gI_pu, gI_wh, gI_th, aI_em37, aI_em38, aI_em39, aI_em40, aI_em41, aI_em43, aI_em44, aI_em45, aI_em46, aI_em47, aI_em48, aI_em50, aI_em51, aI_em52, aI_em53, aI_em54, aI_em55, aI_em56, aI_em57, aI_em58, aI_em59, aI_em60, aI_em61, aI_em63, aI_em64, aI_em65, BtryOf_0, BtryOf_29, BtryOf_31, BtryOf_49, BtryOf_60, BtryOf_64, BtryOf_65, oi_0, oi_1, oi_123, oi_20, oi_50, oi_9, P_emit, P_open, P_take, P_thing, P_want]; try dsimp only
            refine ⟨Or.inr rfl, ?_⟩
            refine ⟨_, rfl, Or.inr ⟨rfl, by repeat (first | exact Fp.rf | (with_reducible refine Fp.vr ?_ ?_) | refine Fp.a ?_ rfl | refine Fp.i ?_ rfl | refine Fp.y ?_ rfl ⟨by lia, by lia⟩ | exact ⟨by lia, by lia⟩), ?_, ?_, ?_⟩⟩
            · intro mn k j hσ hk hj
              have b1 := hσ.step (gI σ 14) nn.1 (by omega)
              have hjt : 1 ≤ j := by omega
              have b2 := b1.thg 9 (gI σ 14) hjt (by decide) nn.1
              have b3 := b2.1.take (by assumption) rfl (k + (-5)) (j + (0)) ⟨by omega, by omega⟩ ⟨by omega, by omega⟩
              have b4 := b3.tryb (gI σ 49) (gI σ 14) (b2.2) ⟨nn.2.2.2.2.1.1, by show gI σ 49 < gI σ 49 + 1; lia⟩ nn.1 (by omega) th51b (PI.nf hσ _)
              have b5 := b4.take (by assumption) rfl (k + (-10)) (j + (1)) ⟨by omega, by omega⟩ ⟨by omega, by omega⟩
              have b6 := b5.fop 9 (gI σ 49) (gI σ 18) (by omega) (by assumption) (by decide) ⟨nn.2.2.2.2.1.1, by show gI σ 49 < gI σ 49 + 1; lia⟩ (fun _ => ⟨nn.2.1.1, by show gI σ 18 < gI σ 18 + 1 + 1; lia⟩)
              have b7 := b6.wk k j ⟨by omega, by omega⟩ ⟨by omega, by omega⟩
              rw [FF_fo, FF_sI (k := 14) (by omega), FF_em, FF_sI (k := 14) (by omega), FF_th, FF_em]
              · rw [fit9]
                exact b7
              · exact nn.2.2.2.2.2.1
            · refine MF.fop ?_ (by decide) ?_
              · exact MF.of hMF rfl rfl rfl
              · exact nn.2.2.2.2.2.1
            · show gI σ 14 < gI σ 14 + 1 + 1
              lia
          · dsimp only [Option.toList, List.cons_append, List.nil_append, Nat.beq, gI_sI, gI_sL, gI_sA, gI_sM, gL_sI, gL_sL, gL_sA, gL_sM, aI_sI, aI_sL, aI_sA, aI_sM, aL_sI, aL_sL, aL_sA, aL_sM, gI_em, gI_emx, gI_pu, gI_wh, gI_th, aI_em37, aI_em38, aI_em39, aI_em40, aI_em41, aI_em43, aI_em44, aI_em45, aI_em46, aI_em47, aI_em48, aI_em50, aI_em51, aI_em52, aI_em53, aI_em54, aI_em55, aI_em56, aI_em57, aI_em58, aI_em59, aI_em60, aI_em61, aI_em63, aI_em64, aI_em65]
            refine ⟨fun h10 => ?_, fun h10 => absurd h10 (by decide)⟩
            clear h10
            apply hB
            dsimp only [rgo, rfd, BtryOf, Nat.beq, rwp, rst, lv_args, rlk, rs1, rs2, rdl, rky, rct, rcs, rcd, rno, rsw, Value.category, List.filter, List.take, List.drop, List.reverse, List.reverseAux, List.cons_append, List.nil_append, Option.toList, Int.toNat, Int.reduceToNat, if_pos, if_neg, reduceIte, ↓reduceIte, Nat.reduceAdd, Nat.reduceEqDiff, Nat.reduceBEq, beq_self_eq_true, Bool.not_true, Bool.not_false, Bool.and_true, Bool.and_false, Bool.true_and, Bool.false_and, gI_sI, gI_sL, gI_sA, gI_sM, gL_sI, gL_sL, gL_sA, gL_sM, aI_sI, aI_sL, aI_sA, aI_sM, aL_sI, aL_sL, aL_sA, aL_sM, gI_em, gI_emx, gI_pu, gI_wh, gI_th, aI_em37, aI_em38, aI_em39, aI_em40, aI_em41, aI_em43, aI_em44, aI_em45, aI_em46, aI_em47, aI_em48, aI_em50, aI_em51, aI_em52, aI_em53, aI_em54, aI_em55, aI_em56, aI_em57, aI_em58, aI_em59, aI_em60, aI_em61, aI_em63, aI_em64, aI_em65, BtryOf_0, BtryOf_29, BtryOf_31, BtryOf_49, BtryOf_60, BtryOf_64, BtryOf_65, oi_0, oi_1, oi_123, oi_20, oi_50, oi_9, P_emit, P_open, P_take, P_thing, P_want]; try dsimp only
            apply hB
            dsimp only [rgo, rfd, BtryOf, Nat.beq, rwp, rst, lv_args, rlk, rs1, rs2, rdl, rky, rct, rcs, rcd, rno, rsw, Value.category, List.filter, List.take, List.drop, List.reverse, List.reverseAux, List.cons_append, List.nil_append, Option.toList, Int.toNat, Int.reduceToNat, if_pos, if_neg, reduceIte, ↓reduceIte, Nat.reduceAdd, Nat.reduceEqDiff, Nat.reduceBEq, beq_self_eq_true, Bool.not_true, Bool.not_false, Bool.and_true, Bool.and_false, Bool.true_and, Bool.false_and, gI_sI, gI_sL, gI_sA, gI_sM, gL_sI, gL_sL, gL_sA, gL_sM, aI_sI, aI_sL, aI_sA, aI_sM, aL_sI, aL_sL, aL_sA, aL_sM, gI_em, gI_emx, gI_pu, gI_wh, gI_th, aI_em37, aI_em38, aI_em39, aI_em40, aI_em41, aI_em43, aI_em44, aI_em45, aI_em46, aI_em47, aI_em48, aI_em50, aI_em51, aI_em52, aI_em53, aI_em54, aI_em55, aI_em56, aI_em57, aI_em58, aI_em59, aI_em60, aI_em61, aI_em63, aI_em64, aI_em65, BtryOf_0, BtryOf_29, BtryOf_31, BtryOf_49, BtryOf_60, BtryOf_64, BtryOf_65, oi_0, oi_1, oi_123, oi_20, oi_50, oi_9, P_emit, P_open, P_take, P_thing, P_want]; try dsimp only
            refine ⟨Or.inl rfl, ?_⟩
            exact ⟨_, rfl, Or.inl ⟨rfl, Fp.tr (by repeat (first | exact Fp.rf | (with_reducible refine Fp.vr ?_ ?_) | refine Fp.a ?_ rfl | refine Fp.i ?_ rfl | refine Fp.y ?_ rfl ⟨by lia, by lia⟩ | exact ⟨by lia, by lia⟩)) hf8⟩⟩
        · dsimp only [Option.toList, List.cons_append, List.nil_append, Nat.beq, gI_sI, gI_sL, gI_sA, gI_sM, gL_sI, gL_sL, gL_sA, gL_sM, aI_sI, aI_sL, aI_sA, aI_sM, aL_sI, aL_sL, aL_sA, aL_sM, gI_em, gI_emx, gI_pu, gI_wh, gI_th, aI_em37, aI_em38, aI_em39, aI_em40, aI_em41, aI_em43, aI_em44, aI_em45, aI_em46, aI_em47, aI_em48, aI_em50, aI_em51, aI_em52, aI_em53, aI_em54, aI_em55, aI_em56, aI_em57, aI_em58, aI_em59, aI_em60, aI_em61, aI_em63, aI_em64, aI_em65]
          refine ⟨fun h11 => ?_, fun h11 => absurd h11 (by decide)⟩
          clear h11
          apply hB
          dsimp only [rgo, rfd, BtryOf, Nat.beq, rwp, rst, lv_args, rlk, rs1, rs2, rdl, rky, rct, rcs, rcd, rno, rsw, Value.category, List.filter, List.take, List.drop, List.reverse, List.reverseAux, List.cons_append, List.nil_append, Option.toList, Int.toNat, Int.reduceToNat, if_pos, if_neg, reduceIte, ↓reduceIte, Nat.reduceAdd, Nat.reduceEqDiff, Nat.reduceBEq, beq_self_eq_true, Bool.not_true, Bool.not_false, Bool.and_true, Bool.and_false, Bool.true_and, Bool.false_and, gI_sI, gI_sL, gI_sA, gI_sM, gL_sI, gL_sL, gL_sA, gL_sM, aI_sI, aI_sL, aI_sA, aI_sM, aL_sI, aL_sL, aL_sA, aL_sM, gI_em, gI_emx, gI_pu, gI_wh, gI_th, aI_em37, aI_em38, aI_em39, aI_em40, aI_em41, aI_em43, aI_em44, aI_em45, aI_em46, aI_em47, aI_em48, aI_em50, aI_em51, aI_em52, aI_em53, aI_em54, aI_em55, aI_em56, aI_em57, aI_em58, aI_em59, aI_em60, aI_em61, aI_em63, aI_em64, aI_em65, BtryOf_0, BtryOf_29, BtryOf_31, BtryOf_49, BtryOf_60, BtryOf_64, BtryOf_65, oi_0, oi_1, oi_123, oi_20, oi_50, oi_9, P_emit, P_open, P_take, P_thing, P_want]; try dsimp only
          apply hB
          dsimp only [rgo, rfd, BtryOf, Nat.beq, rwp, rst, lv_args, rlk, rs1, rs2, rdl, rky, rct, rcs, rcd, rno, rsw, Value.category, List.filter, List.take, List.drop, List.reverse, List.reverseAux, List.cons_append, List.nil_append, Option.toList, Int.toNat, Int.reduceToNat, if_pos, if_neg, reduceIte, ↓reduceIte, Nat.reduceAdd, Nat.reduceEqDiff, Nat.reduceBEq, beq_self_eq_true, Bool.not_true, Bool.not_false, Bool.and_true, Bool.and_false, Bool.true_and, Bool.false_and, gI_sI, gI_sL, gI_sA, gI_sM, gL_sI, gL_sL, gL_sA, gL_sM, aI_sI, aI_sL, aI_sA, aI_sM, aL_sI, aL_sL, aL_sA, aL_sM, gI_em, gI_emx, gI_pu, gI_wh, gI_th, aI_em37, aI_em38, aI_em39, aI_em40, aI_em41, aI_em43, aI_em44, aI_em45, aI_em46, aI_em47, aI_em48, aI_em50, aI_em51, aI_em52, aI_em53, aI_em54, aI_em55, aI_em56, aI_em57, aI_em58, aI_em59, aI_em60, aI_em61, aI_em63, aI_em64, aI_em65, BtryOf_0, BtryOf_29, BtryOf_31, BtryOf_49, BtryOf_60, BtryOf_64, BtryOf_65, oi_0, oi_1, oi_123, oi_20, oi_50, oi_9, P_emit, P_open, P_take, P_thing, P_want]; try dsimp only
          refine ⟨Or.inl rfl, ?_⟩
          exact ⟨_, rfl, Or.inl ⟨rfl, by repeat (first | exact Fp.rf | (with_reducible refine Fp.vr ?_ ?_) | refine Fp.a ?_ rfl | refine Fp.i ?_ rfl | refine Fp.y ?_ rfl ⟨by lia, by lia⟩ | exact ⟨by lia, by lia⟩)⟩⟩
      · dsimp only [Option.toList, List.cons_append, List.nil_append, Nat.beq, gI_sI, gI_sL, gI_sA, gI_sM, gL_sI, gL_sL, gL_sA, gL_sM, aI_sI, aI_sL, aI_sA, aI_sM, aL_sI, aL_sL, aL_sA, aL_sM, gI_em, gI_emx, gI_pu, gI_wh, gI_th, aI_em37, aI_em38, aI_em39, aI_em40, aI_em41, aI_em43, aI_em44, aI_em45, aI_em46, aI_em47, aI_em48, aI_em50, aI_em51, aI_em52, aI_em53, aI_em54, aI_em55, aI_em56, aI_em57, aI_em58, aI_em59, aI_em60, aI_em61, aI_em63, aI_em64, aI_em65]
        refine ⟨fun h12 => absurd h12 (by decide), fun h12 => ?_⟩
        clear h12
        apply hB
        dsimp only [rgo, rfd, BtryOf, Nat.beq, rwp, rst, lv_args, rlk, rs1, rs2, rdl, rky, rct, rcs, rcd, rno, rsw, Value.category, List.filter, List.take, List.drop, List.reverse, List.reverseAux, List.cons_append, List.nil_append, Option.toList, Int.toNat, Int.reduceToNat, if_pos, if_neg, reduceIte, ↓reduceIte, Nat.reduceAdd, Nat.reduceEqDiff, Nat.reduceBEq, beq_self_eq_true, Bool.not_true, Bool.not_false, Bool.and_true, Bool.and_false, Bool.true_and, Bool.false_and, gI_sI, gI_sL, gI_sA, gI_sM, gL_sI, gL_sL, gL_sA, gL_sM, aI_sI, aI_sL, aI_sA, aI_sM, aL_sI, aL_sL, aL_sA, aL_sM, gI_em, gI_emx, gI_pu, gI_wh, gI_th, aI_em37, aI_em38, aI_em39, aI_em40, aI_em41, aI_em43, aI_em44, aI_em45, aI_em46, aI_em47, aI_em48, aI_em50, aI_em51, aI_em52, aI_em53, aI_em54, aI_em55, aI_em56, aI_em57, aI_em58, aI_em59, aI_em60, aI_em61, aI_em63, aI_em64, aI_em65, BtryOf_0, BtryOf_29, BtryOf_31, BtryOf_49, BtryOf_60, BtryOf_64, BtryOf_65, oi_0, oi_1, oi_123, oi_20, oi_50, oi_9, P_emit, P_open, P_take, P_thing, P_want]; try dsimp only
        refine ⟨Or.inl rfl, ?_⟩
        exact ⟨_, rfl, Or.inl ⟨rfl, by repeat (first | exact Fp.rf | (with_reducible refine Fp.vr ?_ ?_) | refine Fp.a ?_ rfl | refine Fp.i ?_ rfl | refine Fp.y ?_ rfl ⟨by lia, by lia⟩ | exact ⟨by lia, by lia⟩)⟩⟩
    next => exact hP.elim
theorem m_tryOf (l : Launch) : RMet l 4 66 P_tryOf Q_tryOf := by
  refine RMet.by BtryOf [(20, P_emit, Q_emit), (36, P_open, Q_open), (17, P_take, Q_take), (35, P_thing, Q_thing), (18, P_want, Q_want)] rotryOf okBtryOf (ctc (m_emit l) (by decide) (ctc (m_open l) (by decide) (ctc (m_take l) (by decide) (ctc (m_thing l) (by decide) (ctc (m_want l) (by decide) ct0))))) ?_ b_tryOf
  · intro As σ hP
    unfold P_tryOf at hP
    split at hP
    next => exact Nat.le_of_ble_eq_true rfl
    next => exact hP.elim
set_option maxRecDepth 100000 in
theorem e_tryOf (l : Launch) : RMetE l 4 66 P_tryOf Q_tryOf := by
  refine RMetE.by BtryOf [(20, P_emit, Q_emit), (36, P_open, Q_open), (17, P_take, Q_take), (35, P_thing, Q_thing), (18, P_want, Q_want)] rfl rfl rotryOf okBtryOf (ctEc (e_emit l) (by decide) (ctEc (e_open l) (by decide) (ctEc (e_take l) (by decide) (ctEc (e_thing l) (by decide) (ctEc (e_want l) (by decide) ctE0))))) ?_ b_tryOf
  · intro As σ hP
    unfold P_tryOf at hP
    split at hP
    next => exact Nat.le_of_ble_eq_true rfl
    next => exact hP.elim
