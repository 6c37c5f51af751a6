def Pv_switchOf (s : SpC) (n : Nat) : UP1 := fun A1 σ => match A1 with
  | [] => SR σ s n ∧ FgR σ 0 ∧ frR σ ≠ [] ∧ codY s = 61
  | _ => False
def Qv_switchOf (s : SpC) (n : Nat) : UQ1 := fun A1 σ w τ => match A1 with
  | [] => StQ τ (sfY (frR σ) n (stY n s)) w
  | _ => False
def Qw_switchOf : UQ1 := fun A1 σ w τ => ∀ (s : SpC) (n : Nat), Pv_switchOf s n A1 σ → Qv_switchOf s n A1 σ w τ
set_option maxRecDepth 100000 in
set_option maxHeartbeats 4000000 in
theorem v_switchOf (s : SpC) (n : Nat) : UMet 58 (Pv_switchOf s n) (Qv_switchOf s n) := by
  refine UMet.by BswitchOf [(52, (fun _ _ => True), Qw_condition), (20, Pu_emit, Qu_emit), (36, (fun _ _ => True), Qw_open), (17, (fun _ _ => True), Qw_take), (35, Pu_thing, Qu_thing), (18, (fun _ _ => True), Qw_want)] rfl (ucc w_condition (ucc u_emit (ucc w_open (ucc w_take (ucc u_thing (ucc w_want uc0)))))) ?_
  intro A1 σ hP K hB hW
  unfold Pv_switchOf at hP
  split at hP
  next =>
    obtain ⟨hR, hg, hne, hcd⟩ := hP
    have hnn := hR.2.1
    have hm6 := hR.2.2.1.2.2.resolve_left hne
    intro n0_
    refine hB _ _ _ _ _ (fun m1 hm1 => ?_)
    dsimp only [ugo, uwp, ust, uct, rfd, BswitchOf, Nat.beq, lv_args, rlk, rs1, rs2, rdl, rky, rcd, rno, rsw, Value.category, List.filter, List.take, List.drop, List.reverse, List.reverseAux, List.cons_append, List.nil_append, Option.toList, Int.toNat, Int.reduceToNat, if_pos, if_neg, reduceIte, ↓reduceIte, Nat.reduceAdd, Nat.reduceEqDiff, Nat.reduceBEq, beq_self_eq_true, Bool.not_true, Bool.not_false, Bool.and_true, Bool.and_false, Bool.true_and, Bool.false_and, gI_sI, gI_sL, gI_sA, gI_sM, gL_sI, gL_sL, gL_sA, gL_sM, aI_sI, aI_sL, aI_sA, aI_sM, aL_sI, aL_sL, aL_sA, aL_sM, BswitchOf_0, BswitchOf_29, BswitchOf_36, BswitchOf_38, BswitchOf_61, BswitchOf_72, BswitchOf_76, BswitchOf_77, oi_0, oi_1, oi_123, oi_20, oi_37, oi_8, Pu_emit, Pu_thing]; try dsimp only
    refine ⟨trivial, fun w2 τ2 hq2 => ?_⟩
    obtain ⟨rfl, hE2⟩ := hq2
    have hR2 := SR.em (e_ := 0) (s := s) (n := n) (by repeat (first | exact hR | refine SR.i ?_ rfl | refine SR.a ?_ rfl)) hE2
    have hg2 := FgR.em (e_ := 0) (by repeat (first | exact hg | refine FgR.i ?_ rfl | refine FgR.a ?_ rfl)) (s := s) (n := n) (by repeat (first | exact hR | refine SR.i ?_ rfl | refine SR.a ?_ rfl)) hE2
    have hf2 := frR_em hE2
    dsimp only [Option.toList, List.cons_append, List.nil_append, Nat.beq, gI_sI, gI_sL, gI_sA, gI_sM, gL_sI, gL_sL, gL_sA, gL_sM, aI_sI, aI_sL, aI_sA, aI_sM, aL_sI, aL_sL, aL_sA, aL_sM]
    have k6_2 : 0 < gI τ2 36 := by rw [hE2.1 36 (by decide)]; exact hm6
    refine ⟨trivial, fun w3 τ3 hq3 => ?_⟩
    obtain ⟨rfl, hT3⟩ := hq3
    have hR3 := SR.th (e_ := 0) (s := s) (n := n) (by repeat (first | exact hR2 | refine SR.i ?_ rfl | refine SR.a ?_ rfl)) hT3
    have hg3 := FgR.th (e_ := 0) (by repeat (first | exact hg2 | refine FgR.i ?_ rfl | refine FgR.a ?_ rfl)) (s := s) (n := n) (by repeat (first | exact hR2 | refine SR.i ?_ rfl | refine SR.a ?_ rfl)) hT3
    have hf3 := frR_th hT3
    have hk3 := th49 hT3
    dsimp only [Option.toList, List.cons_append, List.nil_append, Nat.beq, gI_sI, gI_sL, gI_sA, gI_sM, gL_sI, gL_sL, gL_sA, gL_sM, aI_sI, aI_sL, aI_sA, aI_sM, aL_sI, aL_sL, aL_sA, aL_sM]
    have k6_3 : 0 < gI τ3 36 := by rw [hT3.1 36 (by decide)]; exact k6_2
    have k9_3 : nT (gI τ2 49) < nT (gI τ3 49) := kthx hk3
    refine ⟨trivial, fun w4 τ4 hq4 => ?_⟩
    have hq4 := hq4 _ s n ⟨(SR.x (e_ := 0) (by repeat (first | exact hR3 | refine SR.i ?_ rfl | refine SR.a ?_ rfl))), by omega, by omega⟩
    rcases hq4 with ⟨rfl, hF4⟩ | ⟨rfl, hX4, hz4, hS4⟩
    · dsimp only [Option.toList, List.cons_append, List.nil_append, Nat.beq, gI_sI, gI_sL, gI_sA, gI_sM, gL_sI, gL_sL, gL_sA, gL_sM, aI_sI, aI_sL, aI_sA, aI_sM, aL_sI, aL_sL, aL_sA, aL_sM]
      refine ⟨fun h5 => ?_, fun h5 => absurd h5 (by decide)⟩
      clear h5
      refine hB _ _ _ _ _ (fun m6 hm6 => ?_)
      dsimp only [ugo, uwp, ust, uct, rfd, BswitchOf, Nat.beq, lv_args, rlk, rs1, rs2, rdl, rky, rcd, rno, rsw, Value.category, List.filter, List.take, List.drop, List.reverse, List.reverseAux, List.cons_append, List.nil_append, Option.toList, Int.toNat, Int.reduceToNat, if_pos, if_neg, reduceIte, ↓reduceIte, Nat.reduceAdd, Nat.reduceEqDiff, Nat.reduceBEq, beq_self_eq_true, Bool.not_true, Bool.not_false, Bool.and_true, Bool.and_false, Bool.true_and, Bool.false_and, gI_sI, gI_sL, gI_sA, gI_sM, gL_sI, gL_sL, gL_sA, gL_sM, aI_sI, aI_sL, aI_sA, aI_sM, aL_sI, aL_sL, aL_sA, aL_sM, BswitchOf_0, BswitchOf_29, BswitchOf_36, BswitchOf_38, BswitchOf_61, BswitchOf_72, BswitchOf_76, BswitchOf_77, oi_0, oi_1, oi_123, oi_20, oi_37, oi_8, Pu_emit, Pu_thing]; try dsimp only
      unfold Qv_switchOf
      try dsimp only
      rw [st_swi' hnn.2.1 hcd]
      refine StQ.f hF4 ?_
      exact (by repeat (first | with_reducible exact GpY.rf | with_reducible refine GpY.tr ?_ (gd_fo _) | with_reducible refine GpY.tr ?_ (gd_ef _) | with_reducible refine GpY.tr ?_ (gd_cf _) | with_reducible refine GpY.tr ?_ (gd_wt _) | with_reducible refine GpY.tr ?_ (gd_xp _) | with_reducible refine GpY.tr ?_ (gd_acc _) | with_reducible refine GpY.tr ?_ (gd_rai _) | with_reducible refine GpY.tr ?_ (gd_e _) | with_reducible refine GpY.tr ?_ (gd_o _) | with_reducible refine GpY.tr ?_ (gd_c _) | with_reducible refine GpY.tr ?_ (gd_op _) | with_reducible refine GpY.tr ?_ (gd_clp gd_e _ _) | with_reducible refine GpY.tr ?_ (gd_tl _) | with_reducible refine GpY.tr ?_ (gd_sf _ _ _) | with_reducible refine GpY.tr ?_ (gd_cl _) | with_reducible refine GpY.tr ?_ (gd_pc _) | with_reducible refine GpY.tr ?_ (gd_st _) | with_reducible refine GpY.tr ?_ (gd_rw _) | with_reducible refine GpY.tr ?_ (gd_typ _) | with_reducible refine GpY.tr ?_ (gd_dcl _) | with_reducible refine GpY.tr ?_ (gd_va2 _) | with_reducible refine GpY.tr ?_ (gd_cnd _) | with_reducible refine GpY.tr ?_ (gd_tr1 _) | with_reducible refine GpY.tr ?_ (gd_tr2 (fun _ => gd_rw) _) | with_reducible refine GpY.tr ?_ (gd_tr3 (fun _ => gd_rw) _) | with_reducible refine GpY.tr ?_ (gd_fo1 _) | with_reducible refine GpY.tr ?_ (gd_fo2 _) | with_reducible refine GpY.tr ?_ (gd_fo3 _) | with_reducible refine GpY.tr ?_ (gd_fex _) | with_reducible refine GpY.tr ?_ (pg_var.1) | with_reducible refine GpY.tr ?_ (pg_cas.1) | exact GpY.rf))
    · dsimp only [Option.toList, List.cons_append, List.nil_append, Nat.beq, gI_sI, gI_sL, gI_sA, gI_sM, gL_sI, gL_sL, gL_sA, gL_sM, aI_sI, aI_sL, aI_sA, aI_sM, aL_sI, aL_sL, aL_sA, aL_sM]
      have hR4 := SR.kr (e_ := 0) (by repeat (first | exact hR3 | refine SR.i ?_ rfl | refine SR.a ?_ rfl)) hX4 acc2
      have hg4 := FgR.kr (e_ := 0) (s := s) (n := n) (by repeat (first | exact hg3 | refine FgR.i ?_ rfl | refine FgR.a ?_ rfl)) (by repeat (first | exact hR3 | refine SR.i ?_ rfl | refine SR.a ?_ rfl)) hX4
      have hf4 := frR_kr hX4
      have k6_4 : 0 < gI τ4 36 := by rw [hX4.2.2.1.1 36 rfl]; exact k6_3
      have k9_4 : nT (gI τ2 49) < nT (gI τ4 49) := by rw [hX4.2.2.1.1 49 rfl]; exact k9_3
      refine ⟨fun h7 => absurd h7 (by decide), fun h7 => ?_⟩
      clear h7
      refine hB _ _ _ _ _ (fun m8 hm8 => ?_)
      dsimp only [ugo, uwp, ust, uct, rfd, BswitchOf, Nat.beq, lv_args, rlk, rs1, rs2, rdl, rky, rcd, rno, rsw, Value.category, List.filter, List.take, List.drop, List.reverse, List.reverseAux, List.cons_append, List.nil_append, Option.toList, Int.toNat, Int.reduceToNat, if_pos, if_neg, reduceIte, ↓reduceIte, Nat.reduceAdd, Nat.reduceEqDiff, Nat.reduceBEq, beq_self_eq_true, Bool.not_true, Bool.not_false, Bool.and_true, Bool.and_false, Bool.true_and, Bool.false_and, gI_sI, gI_sL, gI_sA, gI_sM, gL_sI, gL_sL, gL_sA, gL_sM, aI_sI, aI_sL, aI_sA, aI_sM, aL_sI, aL_sL, aL_sA, aL_sM, BswitchOf_0, BswitchOf_29, BswitchOf_36, BswitchOf_38, BswitchOf_61, BswitchOf_72, BswitchOf_76, BswitchOf_77, oi_0, oi_1, oi_123, oi_20, oi_37, oi_8, Pu_emit, Pu_thing]; try dsimp only
      refine ⟨trivial, fun w9 τ9 hq9 => ?_⟩
      have hq9 := hq9 _ (accY s) n ⟨(SR.x (e_ := 0) (by repeat (first | exact hR4 | refine SR.i ?_ rfl | refine SR.a ?_ rfl))), by omega⟩
      rcases hq9 with ⟨rfl, hF9⟩ | ⟨rfl, hX9, hs2_9⟩
      · dsimp only [Option.toList, List.cons_append, List.nil_append, Nat.beq, gI_sI, gI_sL, gI_sA, gI_sM, gL_sI, gL_sL, gL_sA, gL_sM, aI_sI, aI_sL, aI_sA, aI_sM, aL_sI, aL_sL, aL_sA, aL_sM]
        refine ⟨fun h10 => absurd h10 (by decide), fun h10 => ?_⟩
        clear h10
        refine hB _ _ _ _ _ (fun m11 hm11 => ?_)
        dsimp only [ugo, uwp, ust, uct, rfd, BswitchOf, Nat.beq, lv_args, rlk, rs1, rs2, rdl, rky, rcd, rno, rsw, Value.category, List.filter, List.take, List.drop, List.reverse, List.reverseAux, List.cons_append, List.nil_append, Option.toList, Int.toNat, Int.reduceToNat, if_pos, if_neg, reduceIte, ↓reduceIte, Nat.reduceAdd, Nat.reduceEqDiff, Nat.reduceBEq, beq_self_eq_true, Bool.not_true, Bool.not_false, Bool.and_true, Bool.and_false, Bool.true_and, Bool.false_and, gI_sI, gI_sL, gI_sA, gI_sM, gL_sI, gL_sL, gL_sA, gL_sM, aI_sI, aI_sL, aI_sA, aI_sM, aL_sI, aL_sL, aL_sA, aL_sM, BswitchOf_0, BswitchOf_29, BswitchOf_36, BswitchOf_38, BswitchOf_61, BswitchOf_72, BswitchOf_76, BswitchOf_77, oi_0, oi_1, oi_123, oi_20, oi_37, oi_8, Pu_emit, Pu_thing]; try dsimp only
        unfold Qv_switchOf
        try dsimp only
        rw [st_swi' hnn.2.1 hcd]
        refine StQ.f hF9 ?_
        exact (by repeat (first | with_reducible exact GpY.rf | with_reducible refine GpY.tr ?_ (gd_fo _) | with_reducible refine GpY.tr ?_ (gd_ef _) | with_reducible refine GpY.tr ?_ (gd_cf _) | with_reducible refine GpY.tr ?_ (gd_wt _) | with_reducible refine GpY.tr ?_ (gd_xp _) | with_reducible refine GpY.tr ?_ (gd_acc _) | with_reducible refine GpY.tr ?_ (gd_rai _) | with_reducible refine GpY.tr ?_ (gd_e _) | with_reducible refine GpY.tr ?_ (gd_o _) | with_reducible refine GpY.tr ?_ (gd_c _) | with_reducible refine GpY.tr ?_ (gd_op _) | with_reducible refine GpY.tr ?_ (gd_clp gd_e _ _) | with_reducible refine GpY.tr ?_ (gd_tl _) | with_reducible refine GpY.tr ?_ (gd_sf _ _ _) | with_reducible refine GpY.tr ?_ (gd_cl _) | with_reducible refine GpY.tr ?_ (gd_pc _) | with_reducible refine GpY.tr ?_ (gd_st _) | with_reducible refine GpY.tr ?_ (gd_rw _) | with_reducible refine GpY.tr ?_ (gd_typ _) | with_reducible refine GpY.tr ?_ (gd_dcl _) | with_reducible refine GpY.tr ?_ (gd_va2 _) | with_reducible refine GpY.tr ?_ (gd_cnd _) | with_reducible refine GpY.tr ?_ (gd_tr1 _) | with_reducible refine GpY.tr ?_ (gd_tr2 (fun _ => gd_rw) _) | with_reducible refine GpY.tr ?_ (gd_tr3 (fun _ => gd_rw) _) | with_reducible refine GpY.tr ?_ (gd_fo1 _) | with_reducible refine GpY.tr ?_ (gd_fo2 _) | with_reducible refine GpY.tr ?_ (gd_fo3 _) | with_reducible refine GpY.tr ?_ (gd_fex _) | with_reducible refine GpY.tr ?_ (pg_var.1) | with_reducible refine GpY.tr ?_ (pg_cas.1) | exact GpY.rf))
      · dsimp only [Option.toList, List.cons_append, List.nil_append, Nat.beq, gI_sI, gI_sL, gI_sA, gI_sM, gL_sI, gL_sL, gL_sA, gL_sM, aI_sI, aI_sL, aI_sA, aI_sM, aL_sI, aL_sL, aL_sA, aL_sM]
        have hR9 := SR.kr (e_ := 0) (by repeat (first | exact hR4 | refine SR.i ?_ rfl | refine SR.a ?_ rfl)) hX9 hs2_9
        have hg9 := FgR.kr (e_ := 0) (s := (accY s)) (n := n) (by repeat (first | exact hg4 | refine FgR.i ?_ rfl | refine FgR.a ?_ rfl)) (by repeat (first | exact hR4 | refine SR.i ?_ rfl | refine SR.a ?_ rfl)) hX9
        have hf9 := frR_kr hX9
        have k6_9 : 0 < gI τ9 36 := by rw [hX9.2.2.1.1 36 rfl]; exact k6_4
        have k9_9 : nT (gI τ2 49) < nT (gI τ9 49) := by rw [hX9.2.2.1.1 49 rfl]; exact k9_4
        refine ⟨fun h12 => ?_, fun h12 => absurd h12 (by decide)⟩
        clear h12
        refine hB _ _ _ _ _ (fun m13 hm13 => ?_)
        dsimp only [ugo, uwp, ust, uct, rfd, BswitchOf, Nat.beq, lv_args, rlk, rs1, rs2, rdl, rky, rcd, rno, rsw, Value.category, List.filter, List.take, List.drop, List.reverse, List.reverseAux, List.cons_append, List.nil_append, Option.toList, Int.toNat, Int.reduceToNat, if_pos, if_neg, reduceIte, ↓reduceIte, Nat.reduceAdd, Nat.reduceEqDiff, Nat.reduceBEq, beq_self_eq_true, Bool.not_true, Bool.not_false, Bool.and_true, Bool.and_false, Bool.true_and, Bool.false_and, gI_sI, gI_sL, gI_sA, gI_sM, gL_sI, gL_sL, gL_sA, gL_sM, aI_sI, aI_sL, aI_sA, aI_sM, aL_sI, aL_sL, aL_sA, aL_sM, BswitchOf_0, BswitchOf_29, BswitchOf_36, BswitchOf_38, BswitchOf_61, BswitchOf_72, BswitchOf_76, BswitchOf_77, oi_0, oi_1, oi_123, oi_20, oi_37, oi_8, Pu_emit, Pu_thing]; try dsimp only
        refine ⟨trivial, fun w14 τ14 hq14 => ?_⟩
        obtain ⟨rfl, hE14⟩ := hq14
        have hR14 := SR.em (e_ := 0) (s := (cndY n (accY s))) (n := n) (by repeat (first | exact hR9 | refine SR.i ?_ rfl | refine SR.a ?_ rfl)) hE14
        have hg14 := FgR.em (e_ := 0) (by repeat (first | exact hg9 | refine FgR.i ?_ rfl | refine FgR.a ?_ rfl)) (s := (cndY n (accY s))) (n := n) (by repeat (first | exact hR9 | refine SR.i ?_ rfl | refine SR.a ?_ rfl)) hE14
        have hf14 := frR_em hE14
        dsimp only [Option.toList, List.cons_append, List.nil_append, Nat.beq, gI_sI, gI_sL, gI_sA, gI_sM, gL_sI, gL_sL, gL_sA, gL_sM, aI_sI, aI_sL, aI_sA, aI_sM, aL_sI, aL_sL, aL_sA, aL_sM]
        have k6_14 : 0 < gI τ14 36 := by rw [hE14.1 36 (by decide)]; exact k6_9
        have k9_14 : nT (gI τ2 49) < nT (gI τ14 49) := by rw [hE14.1 49 (by decide)]; exact k9_9
        intro p15
        refine ⟨trivial, fun w16 τ16 hq16 => ?_⟩
        have hq16 := hq16 _ (cndY n (accY s)) n 2 ⟨(SR.x (e_ := 0) (by repeat (first | exact hR14 | refine SR.i ?_ rfl | refine SR.a ?_ rfl))), by decide⟩
        rcases hq16 with ⟨rfl, hF16⟩ | ⟨rfl, hc16, hX16, hz16, hS16⟩
        · dsimp only [Option.toList, List.cons_append, List.nil_append, Nat.beq, gI_sI, gI_sL, gI_sA, gI_sM, gL_sI, gL_sL, gL_sA, gL_sM, aI_sI, aI_sL, aI_sA, aI_sM, aL_sI, aL_sL, aL_sA, aL_sM]
          refine ⟨fun h17 => ?_, fun h17 => absurd h17 (by decide)⟩
          clear h17
          refine hB _ _ _ _ _ (fun m18 hm18 => ?_)
          dsimp only [ugo, uwp, ust, uct, rfd, BswitchOf, Nat.beq, lv_args, rlk, rs1, rs2, rdl, rky, rcd, rno, rsw, Value.category, List.filter, List.take, List.drop, List.reverse, List.reverseAux, List.cons_append, List.nil_append, Option.toList, Int.toNat, Int.reduceToNat, if_pos, if_neg, reduceIte, ↓reduceIte, Nat.reduceAdd, Nat.reduceEqDiff, Nat.reduceBEq, beq_self_eq_true, Bool.not_true, Bool.not_false, Bool.and_true, Bool.and_false, Bool.true_and, Bool.false_and, gI_sI, gI_sL, gI_sA, gI_sM, gL_sI, gL_sL, gL_sA, gL_sM, aI_sI, aI_sL, aI_sA, aI_sM, aL_sI, aL_sL, aL_sA, aL_sM, BswitchOf_0, BswitchOf_29, BswitchOf_36, BswitchOf_38, BswitchOf_61, BswitchOf_72, BswitchOf_76, BswitchOf_77, oi_0, oi_1, oi_123, oi_20, oi_37, oi_8, Pu_emit, Pu_thing]; try dsimp only
          refine hB _ _ _ _ _ (fun m19 hm19 => ?_)
          dsimp only [ugo, uwp, ust, uct, rfd, BswitchOf, Nat.beq, lv_args, rlk, rs1, rs2, rdl, rky, rcd, rno, rsw, Value.category, List.filter, List.take, List.drop, List.reverse, List.reverseAux, List.cons_append, List.nil_append, Option.toList, Int.toNat, Int.reduceToNat, if_pos, if_neg, reduceIte, ↓reduceIte, Nat.reduceAdd, Nat.reduceEqDiff, Nat.reduceBEq, beq_self_eq_true, Bool.not_true, Bool.not_false, Bool.and_true, Bool.and_false, Bool.true_and, Bool.false_and, gI_sI, gI_sL, gI_sA, gI_sM, gL_sI, gL_sL, gL_sA, gL_sM, aI_sI, aI_sL, aI_sA, aI_sM, aL_sI, aL_sL, aL_sA, aL_sM, BswitchOf_0, BswitchOf_29, BswitchOf_36, BswitchOf_38, BswitchOf_61, BswitchOf_72, BswitchOf_76, BswitchOf_77, oi_0, oi_1, oi_123, oi_20, oi_37, oi_8, Pu_emit, Pu_thing]; try dsimp only
          unfold Qv_switchOf
          try dsimp only
          rw [st_swi' hnn.2.1 hcd]
          refine StQ.f hF16 ?_
          exact (by repeat (first | with_reducible exact GpY.rf | with_reducible refine GpY.tr ?_ (gd_fo _) | with_reducible refine GpY.tr ?_ (gd_ef _) | with_reducible refine GpY.tr ?_ (gd_cf _) | with_reducible refine GpY.tr ?_ (gd_wt _) | with_reducible refine GpY.tr ?_ (gd_xp _) | with_reducible refine GpY.tr ?_ (gd_acc _) | with_reducible refine GpY.tr ?_ (gd_rai _) | with_reducible refine GpY.tr ?_ (gd_e _) | with_reducible refine GpY.tr ?_ (gd_o _) | with_reducible refine GpY.tr ?_ (gd_c _) | with_reducible refine GpY.tr ?_ (gd_op _) | with_reducible refine GpY.tr ?_ (gd_clp gd_e _ _) | with_reducible refine GpY.tr ?_ (gd_tl _) | with_reducible refine GpY.tr ?_ (gd_sf _ _ _) | with_reducible refine GpY.tr ?_ (gd_cl _) | with_reducible refine GpY.tr ?_ (gd_pc _) | with_reducible refine GpY.tr ?_ (gd_st _) | with_reducible refine GpY.tr ?_ (gd_rw _) | with_reducible refine GpY.tr ?_ (gd_typ _) | with_reducible refine GpY.tr ?_ (gd_dcl _) | with_reducible refine GpY.tr ?_ (gd_va2 _) | with_reducible refine GpY.tr ?_ (gd_cnd _) | with_reducible refine GpY.tr ?_ (gd_tr1 _) | with_reducible refine GpY.tr ?_ (gd_tr2 (fun _ => gd_rw) _) | with_reducible refine GpY.tr ?_ (gd_tr3 (fun _ => gd_rw) _) | with_reducible refine GpY.tr ?_ (gd_fo1 _) | with_reducible refine GpY.tr ?_ (gd_fo2 _) | with_reducible refine GpY.tr ?_ (gd_fo3 _) | with_reducible refine GpY.tr ?_ (gd_fex _) | with_reducible refine GpY.tr ?_ (pg_var.1) | with_reducible refine GpY.tr ?_ (pg_cas.1) | exact GpY.rf))
        · dsimp only [Option.toList, List.cons_append, List.nil_append, Nat.beq, gI_sI, gI_sL, gI_sA, gI_sM, gL_sI, gL_sL, gL_sA, gL_sM, aI_sI, aI_sL, aI_sA, aI_sM, aL_sI, aL_sL, aL_sA, aL_sM]
          have hR16 := SR.kr (e_ := 0) (by repeat (first | exact hR14 | refine SR.i ?_ rfl | refine SR.a ?_ rfl)) hX16 acc2
          have hg16 := FgR.kr (e_ := 0) (s := (cndY n (accY s))) (n := n) (by repeat (first | exact hg14 | refine FgR.i ?_ rfl | refine FgR.a ?_ rfl)) (by repeat (first | exact hR14 | refine SR.i ?_ rfl | refine SR.a ?_ rfl)) hX16
          have hf16 := frR_kr hX16
          have k6_16 : 0 < gI τ16 36 := by rw [hX16.2.2.1.1 36 rfl]; exact k6_14
          have k9_16 : nT (gI τ2 49) < nT (gI τ16 49) := by rw [hX16.2.2.1.1 49 rfl]; exact k9_14
          refine ⟨fun h20 => absurd h20 (by decide), fun h20 => ?_⟩
          clear h20
          refine hB _ _ _ _ _ (fun m21 hm21 => ?_)
          dsimp only [ugo, uwp, ust, uct, rfd, BswitchOf, Nat.beq, lv_args, rlk, rs1, rs2, rdl, rky, rcd, rno, rsw, Value.category, List.filter, List.take, List.drop, List.reverse, List.reverseAux, List.cons_append, List.nil_append, Option.toList, Int.toNat, Int.reduceToNat, if_pos, if_neg, reduceIte, ↓reduceIte, Nat.reduceAdd, Nat.reduceEqDiff, Nat.reduceBEq, beq_self_eq_true, Bool.not_true, Bool.not_false, Bool.and_true, Bool.and_false, Bool.true_and, Bool.false_and, gI_sI, gI_sL, gI_sA, gI_sM, gL_sI, gL_sL, gL_sA, gL_sM, aI_sI, aI_sL, aI_sA, aI_sM, aL_sI, aL_sL, aL_sA, aL_sM, BswitchOf_0, BswitchOf_29, BswitchOf_36, BswitchOf_38, BswitchOf_61, BswitchOf_72, BswitchOf_76, BswitchOf_77, oi_0, oi_1, oi_123, oi_20, oi_37, oi_8, Pu_emit, Pu_thing]; try dsimp only
          refine ⟨trivial, fun w22 τ22 hq22 => ?_⟩
          have hq22 := hq22 (accY (cndY n (accY s))) n ⟨(by repeat (first | exact hR16 | refine SR.i ?_ rfl | refine SR.a ?_ rfl)), (by repeat (first | exact hg16 | refine FgR.i ?_ rfl | refine FgR.a ?_ rfl)), k9_16, by decide, (iff_of_false (by decide) (by (try simp only [frR_i, frR_a, ne_eq, Nat.reduceEqDiff, not_false_eq_true, hf16, hf14, hf9, hf4, hf3, hf2]); exact hne)), k6_16, (fun _ => sw_ng hT3 hS4 hX9.2.2 hE14 hS16)⟩
          rcases hq22 with ⟨rfl, hn22, hF22⟩ | ⟨rfl, hn22, hR22, hg22, hf22⟩
          · dsimp only [Option.toList, List.cons_append, List.nil_append, Nat.beq, gI_sI, gI_sL, gI_sA, gI_sM, gL_sI, gL_sL, gL_sA, gL_sM, aI_sI, aI_sL, aI_sA, aI_sM, aL_sI, aL_sL, aL_sA, aL_sM]
            refine ⟨fun h23 => ?_, fun h23 => absurd h23 (by decide)⟩
            clear h23
            refine hB _ _ _ _ _ (fun m24 hm24 => ?_)
            dsimp only [ugo, uwp, ust, uct, rfd, BswitchOf, Nat.beq, lv_args, rlk, rs1, rs2, rdl, rky, rcd, rno, rsw, Value.category, List.filter, List.take, List.drop, List.reverse, List.reverseAux, List.cons_append, List.nil_append, Option.toList, Int.toNat, Int.reduceToNat, if_pos, if_neg, reduceIte, ↓reduceIte, Nat.reduceAdd, Nat.reduceEqDiff, Nat.reduceBEq, beq_self_eq_true, Bool.not_true, Bool.not_false, Bool.and_true, Bool.and_false, Bool.true_and, Bool.false_and, gI_sI, gI_sL, gI_sA, gI_sM, gL_sI, gL_sL, gL_sA, gL_sM, aI_sI, aI_sL, aI_sA, aI_sM, aL_sI, aL_sL, aL_sA, aL_sM, BswitchOf_0, BswitchOf_29, BswitchOf_36, BswitchOf_38, BswitchOf_61, BswitchOf_72, BswitchOf_76, BswitchOf_77, oi_0, oi_1, oi_123, oi_20, oi_37, oi_8, Pu_emit, Pu_thing]; try dsimp only
            refine hB _ _ _ _ _ (fun m25 hm25 => ?_)
            dsimp only [ugo, uwp, ust, uct, rfd, BswitchOf, Nat.beq, lv_args, rlk, rs1, rs2, rdl, rky, rcd, rno, rsw, Value.category, List.filter, List.take, List.drop, List.reverse, List.reverseAux, List.cons_append, List.nil_append, Option.toList, Int.toNat, Int.reduceToNat, if_pos, if_neg, reduceIte, ↓reduceIte, Nat.reduceAdd, Nat.reduceEqDiff, Nat.reduceBEq, beq_self_eq_true, Bool.not_true, Bool.not_false, Bool.and_true, Bool.and_false, Bool.true_and, Bool.false_and, gI_sI, gI_sL, gI_sA, gI_sM, gL_sI, gL_sL, gL_sA, gL_sM, aI_sI, aI_sL, aI_sA, aI_sM, aL_sI, aL_sL, aL_sA, aL_sM, BswitchOf_0, BswitchOf_29, BswitchOf_36, BswitchOf_38, BswitchOf_61, BswitchOf_72, BswitchOf_76, BswitchOf_77, oi_0, oi_1, oi_123, oi_20, oi_37, oi_8, Pu_emit, Pu_thing]; try dsimp only
            unfold Qv_switchOf
            try dsimp only
            rw [st_swi' hnn.2.1 hcd, xp_y hc16, rw_0 hn22]
            refine StQ.f hF22 ?_
            exact (by repeat (first | with_reducible exact GpY.rf | with_reducible refine GpY.tr ?_ (gd_fo _) | with_reducible refine GpY.tr ?_ (gd_ef _) | with_reducible refine GpY.tr ?_ (gd_cf _) | with_reducible refine GpY.tr ?_ (gd_wt _) | with_reducible refine GpY.tr ?_ (gd_xp _) | with_reducible refine GpY.tr ?_ (gd_acc _) | with_reducible refine GpY.tr ?_ (gd_rai _) | with_reducible refine GpY.tr ?_ (gd_e _) | with_reducible refine GpY.tr ?_ (gd_o _) | with_reducible refine GpY.tr ?_ (gd_c _) | with_reducible refine GpY.tr ?_ (gd_op _) | with_reducible refine GpY.tr ?_ (gd_clp gd_e _ _) | with_reducible refine GpY.tr ?_ (gd_tl _) | with_reducible refine GpY.tr ?_ (gd_sf _ _ _) | with_reducible refine GpY.tr ?_ (gd_cl _) | with_reducible refine GpY.tr ?_ (gd_pc _) | with_reducible refine GpY.tr ?_ (gd_st _) | with_reducible refine GpY.tr ?_ (gd_rw _) | with_reducible refine GpY.tr ?_ (gd_typ _) | with_reducible refine GpY.tr ?_ (gd_dcl _) | with_reducible refine GpY.tr ?_ (gd_va2 _) | with_reducible refine GpY.tr ?_ (gd_cnd _) | with_reducible refine GpY.tr ?_ (gd_tr1 _) | with_reducible refine GpY.tr ?_ (gd_tr2 (fun _ => gd_rw) _) | with_reducible refine GpY.tr ?_ (gd_tr3 (fun _ => gd_rw) _) | with_reducible refine GpY.tr ?_ (gd_fo1 _) | with_reducible refine GpY.tr ?_ (gd_fo2 _) | with_reducible refine GpY.tr ?_ (gd_fo3 _) | with_reducible refine GpY.tr ?_ (gd_fex _) | with_reducible refine GpY.tr ?_ (pg_var.1) | with_reducible refine GpY.tr ?_ (pg_cas.1) | exact GpY.rf))
          · dsimp only [Option.toList, List.cons_append, List.nil_append, Nat.beq, gI_sI, gI_sL, gI_sA, gI_sM, gL_sI, gL_sL, gL_sA, gL_sM, aI_sI, aI_sL, aI_sA, aI_sM, aL_sI, aL_sL, aL_sA, aL_sM]
            have hf22 : frR τ22 = (8 : Int) :: _ := hf22
            refine ⟨fun h26 => absurd h26 (by decide), fun h26 => ?_⟩
            clear h26
            refine hB _ _ _ _ _ (fun m27 hm27 => ?_)
            dsimp only [ugo, uwp, ust, uct, rfd, BswitchOf, Nat.beq, lv_args, rlk, rs1, rs2, rdl, rky, rcd, rno, rsw, Value.category, List.filter, List.take, List.drop, List.reverse, List.reverseAux, List.cons_append, List.nil_append, Option.toList, Int.toNat, Int.reduceToNat, if_pos, if_neg, reduceIte, ↓reduceIte, Nat.reduceAdd, Nat.reduceEqDiff, Nat.reduceBEq, beq_self_eq_true, Bool.not_true, Bool.not_false, Bool.and_true, Bool.and_false, Bool.true_and, Bool.false_and, gI_sI, gI_sL, gI_sA, gI_sM, gL_sI, gL_sL, gL_sA, gL_sM, aI_sI, aI_sL, aI_sA, aI_sM, aL_sI, aL_sL, aL_sA, aL_sM, BswitchOf_0, BswitchOf_29, BswitchOf_36, BswitchOf_38, BswitchOf_61, BswitchOf_72, BswitchOf_76, BswitchOf_77, oi_0, oi_1, oi_123, oi_20, oi_37, oi_8, Pu_emit, Pu_thing]; try dsimp only
            refine hB _ _ _ _ _ (fun m28 hm28 => ?_)
            dsimp only [ugo, uwp, ust, uct, rfd, BswitchOf, Nat.beq, lv_args, rlk, rs1, rs2, rdl, rky, rcd, rno, rsw, Value.category, List.filter, List.take, List.drop, List.reverse, List.reverseAux, List.cons_append, List.nil_append, Option.toList, Int.toNat, Int.reduceToNat, if_pos, if_neg, reduceIte, ↓reduceIte, Nat.reduceAdd, Nat.reduceEqDiff, Nat.reduceBEq, beq_self_eq_true, Bool.not_true, Bool.not_false, Bool.and_true, Bool.and_false, Bool.true_and, Bool.false_and, gI_sI, gI_sL, gI_sA, gI_sM, gL_sI, gL_sL, gL_sA, gL_sM, aI_sI, aI_sL, aI_sA, aI_sM, aL_sI, aL_sL, aL_sA, aL_sM, BswitchOf_0, BswitchOf_29, BswitchOf_36, BswitchOf_38, BswitchOf_61, BswitchOf_72, BswitchOf_76, BswitchOf_77, oi_0, oi_1, oi_123, oi_20, oi_37, oi_8, Pu_emit, Pu_thing]; try dsimp only
            unfold Qv_switchOf
            try dsimp only
            refine Or.inr ⟨rfl, (accY (cndY n (accY s))), (n - 1), 1, (by repeat (first | exact hR22 | refine SR.i ?_ rfl | refine SR.a ?_ rfl)), (by repeat (first | exact hg22 | refine FgR.i ?_ rfl | refine FgR.a ?_ rfl)), ?_⟩
            rw [st_swi' hnn.2.1 hcd, xp_y hc16]
            simp only [frR_i, frR_a, ne_eq, Nat.reduceEqDiff, not_false_eq_true, hf22, hf16, hf14, hf9, hf4, hf3, hf2]
            exact (cl_rw' (k := 8) hn22 (by decide)).symm
  next => exact hP.elim
theorem w_switchOf : UMet 58 (fun _ _ => True) Qw_switchOf := fun A1 σ _ w τ h s n hP => v_switchOf s n A1 σ hP w τ h
def Pv_label (s : SpC) (n : Nat) : UP1 := fun A1 σ => match A1 with
  | [] => SR σ s n ∧ 0 < gI σ 62 ∧ aI σ 63 (gI σ 62 - 1).toNatClampNeg = 8 ∧ (codY s = 62 ∨ codY s = 63)
  | _ => False
def Qv_label (s : SpC) (n : Nat) : UQ1 := fun A1 σ w τ => match A1 with
  | [] => (w = some (.int 0) ∧ FlR τ (casY n s)) ∨ (w = some (.int 1) ∧ SR τ (casY n s) n ∧ FgR τ 0 ∧ frR τ = frR σ)
  | _ => False
def Qw_label : UQ1 := fun A1 σ w τ => ∀ (s : SpC) (n : Nat), Pv_label s n A1 σ → Qv_label s n A1 σ w τ
set_option maxRecDepth 100000 in
set_option maxHeartbeats 4000000 in
theorem v_label (s : SpC) (n : Nat) : UMet 59 (Pv_label s n) (Qv_label s n) := by
  refine UMet.by Blabel [(20, Pu_emit, Qu_emit), (27, (fun _ _ => True), Qw_expression), (15, (fun _ _ => True), Qw_isWord), (17, (fun _ _ => True), Qw_take), (18, (fun _ _ => True), Qw_want)] rfl (ucc u_emit (ucc w_expression (ucc w_isWord (ucc w_take (ucc w_want uc0))))) ?_
  intro A1 σ hP K hB hW
  unfold Pv_label at hP
  split at hP
  next =>
    obtain ⟨hR, hop, h8, hcd⟩ := hP
    have hnn := hR.2.1
    intro n0_
    refine hB _ _ _ _ _ (fun m1 hm1 => ?_)
    dsimp only [ugo, uwp, ust, uct, rfd, Blabel, Nat.beq, lv_args, rlk, rs1, rs2, rdl, rky, rcd, rno, rsw, Value.category, List.filter, List.take, List.drop, List.reverse, List.reverseAux, List.cons_append, List.nil_append, Option.toList, Int.toNat, Int.reduceToNat, if_pos, if_neg, reduceIte, ↓reduceIte, Nat.reduceAdd, Nat.reduceEqDiff, Nat.reduceBEq, beq_self_eq_true, Bool.not_true, Bool.not_false, Bool.and_true, Bool.and_false, Bool.true_and, Bool.false_and, gI_sI, gI_sL, gI_sA, gI_sM, gL_sI, gL_sL, gL_sA, gL_sM, aI_sI, aI_sL, aI_sA, aI_sM, aL_sI, aL_sL, aL_sA, aL_sM, Blabel_0, Blabel_31, Blabel_33, Blabel_37, Blabel_44, Blabel_46, Blabel_70, Blabel_79, oi_0, oi_1, oi_12, oi_38, oi_39, oi_58, Pu_emit]; try dsimp only
    intro p2
    refine ⟨trivial, fun w3 τ3 hq3 => ?_⟩
    obtain ⟨rfl, b3, rfl, hb3⟩ := hq3 trivial
    have he3 := (XrR.s (SR.x (e_ := 0) (by repeat (first | exact hR | refine SR.i ?_ rfl | refine SR.a ?_ rfl)))).wd (x := 12) (by decide)
    rcases hb3 with ⟨rfl, hk3⟩ | ⟨rfl, hk3⟩
    · dsimp only [Option.toList, List.cons_append, List.nil_append, Nat.beq, gI_sI, gI_sL, gI_sA, gI_sM, gL_sI, gL_sL, gL_sA, gL_sM, aI_sI, aI_sL, aI_sA, aI_sM, aL_sI, aL_sL, aL_sA, aL_sM]
      have hc3 : codY s = 62 := he3.mp hk3
      refine ⟨trivial, fun w4 τ4 hq4 => ?_⟩
      have hq4 := hq4 _ s n ⟨(SR.x (e_ := 0) (by repeat (first | exact hR | refine SR.i ?_ rfl | refine SR.a ?_ rfl))), by omega, by omega⟩
      rcases hq4 with ⟨rfl, hF4⟩ | ⟨rfl, hX4, hz4, hS4⟩
      · dsimp only [Option.toList, List.cons_append, List.nil_append, Nat.beq, gI_sI, gI_sL, gI_sA, gI_sM, gL_sI, gL_sL, gL_sA, gL_sM, aI_sI, aI_sL, aI_sA, aI_sM, aL_sI, aL_sL, aL_sA, aL_sM]
        refine ⟨fun h5 => absurd h5 (by decide), fun h5 => ?_⟩
        clear h5
        refine hB _ _ _ _ _ (fun m6 hm6 => ?_)
        dsimp only [ugo, uwp, ust, uct, rfd, Blabel, Nat.beq, lv_args, rlk, rs1, rs2, rdl, rky, rcd, rno, rsw, Value.category, List.filter, List.take, List.drop, List.reverse, List.reverseAux, List.cons_append, List.nil_append, Option.toList, Int.toNat, Int.reduceToNat, if_pos, if_neg, reduceIte, ↓reduceIte, Nat.reduceAdd, Nat.reduceEqDiff, Nat.reduceBEq, beq_self_eq_true, Bool.not_true, Bool.not_false, Bool.and_true, Bool.and_false, Bool.true_and, Bool.false_and, gI_sI, gI_sL, gI_sA, gI_sM, gL_sI, gL_sL, gL_sA, gL_sM, aI_sI, aI_sL, aI_sA, aI_sM, aL_sI, aL_sL, aL_sA, aL_sM, Blabel_0, Blabel_31, Blabel_33, Blabel_37, Blabel_44, Blabel_46, Blabel_70, Blabel_79, oi_0, oi_1, oi_12, oi_38, oi_39, oi_58, Pu_emit]; try dsimp only
        unfold Qv_label
        try dsimp only
        refine Or.inl ⟨rfl, FlR.g hF4 ?_⟩
        rw [cas_y hc3]
        exact (by repeat (first | with_reducible exact GpY.rf | with_reducible refine GpY.tr ?_ (gd_fo _) | with_reducible refine GpY.tr ?_ (gd_ef _) | with_reducible refine GpY.tr ?_ (gd_cf _) | with_reducible refine GpY.tr ?_ (gd_wt _) | with_reducible refine GpY.tr ?_ (gd_xp _) | with_reducible refine GpY.tr ?_ (gd_acc _) | with_reducible refine GpY.tr ?_ (gd_rai _) | with_reducible refine GpY.tr ?_ (gd_e _) | with_reducible refine GpY.tr ?_ (gd_o _) | with_reducible refine GpY.tr ?_ (gd_c _) | with_reducible refine GpY.tr ?_ (gd_op _) | with_reducible refine GpY.tr ?_ (gd_clp gd_e _ _) | with_reducible refine GpY.tr ?_ (gd_tl _) | with_reducible refine GpY.tr ?_ (gd_sf _ _ _) | with_reducible refine GpY.tr ?_ (gd_cl _) | with_reducible refine GpY.tr ?_ (gd_pc _) | with_reducible refine GpY.tr ?_ (gd_st _) | with_reducible refine GpY.tr ?_ (gd_rw _) | with_reducible refine GpY.tr ?_ (gd_typ _) | with_reducible refine GpY.tr ?_ (gd_dcl _) | with_reducible refine GpY.tr ?_ (gd_va2 _) | with_reducible refine GpY.tr ?_ (gd_cnd _) | with_reducible refine GpY.tr ?_ (gd_tr1 _) | with_reducible refine GpY.tr ?_ (gd_tr2 (fun _ => gd_rw) _) | with_reducible refine GpY.tr ?_ (gd_tr3 (fun _ => gd_rw) _) | with_reducible refine GpY.tr ?_ (gd_fo1 _) | with_reducible refine GpY.tr ?_ (gd_fo2 _) | with_reducible refine GpY.tr ?_ (gd_fo3 _) | with_reducible refine GpY.tr ?_ (gd_fex _) | with_reducible refine GpY.tr ?_ (pg_var.1) | with_reducible refine GpY.tr ?_ (pg_cas.1) | exact GpY.rf))
      · dsimp only [Option.toList, List.cons_append, List.nil_append, Nat.beq, gI_sI, gI_sL, gI_sA, gI_sM, gL_sI, gL_sL, gL_sA, gL_sM, aI_sI, aI_sL, aI_sA, aI_sM, aL_sI, aL_sL, aL_sA, aL_sM]
        have hR4 := SR.kr (e_ := 0) (by repeat (first | exact hR | refine SR.i ?_ rfl | refine SR.a ?_ rfl)) hX4 acc2
        have hf4 := frR_kr hX4
        refine ⟨fun h7 => ?_, fun h7 => absurd h7 (by decide)⟩
        clear h7
        refine hB _ _ _ _ _ (fun m8 hm8 => ?_)
        dsimp only [ugo, uwp, ust, uct, rfd, Blabel, Nat.beq, lv_args, rlk, rs1, rs2, rdl, rky, rcd, rno, rsw, Value.category, List.filter, List.take, List.drop, List.reverse, List.reverseAux, List.cons_append, List.nil_append, Option.toList, Int.toNat, Int.reduceToNat, if_pos, if_neg, reduceIte, ↓reduceIte, Nat.reduceAdd, Nat.reduceEqDiff, Nat.reduceBEq, beq_self_eq_true, Bool.not_true, Bool.not_false, Bool.and_true, Bool.and_false, Bool.true_and, Bool.false_and, gI_sI, gI_sL, gI_sA, gI_sM, gL_sI, gL_sL, gL_sA, gL_sM, aI_sI, aI_sL, aI_sA, aI_sM, aL_sI, aL_sL, aL_sA, aL_sM, Blabel_0, Blabel_31, Blabel_33, Blabel_37, Blabel_44, Blabel_46, Blabel_70, Blabel_79, oi_0, oi_1, oi_12, oi_38, oi_39, oi_58, Pu_emit]; try dsimp only
        refine ⟨fun h9 => absurd h9 (by decide), fun h9 => ?_⟩
        clear h9
        refine hB _ _ _ _ _ (fun m10 hm10 => ?_)
        dsimp only [ugo, uwp, ust, uct, rfd, Blabel, Nat.beq, lv_args, rlk, rs1, rs2, rdl, rky, rcd, rno, rsw, Value.category, List.filter, List.take, List.drop, List.reverse, List.reverseAux, List.cons_append, List.nil_append, Option.toList, Int.toNat, Int.reduceToNat, if_pos, if_neg, reduceIte, ↓reduceIte, Nat.reduceAdd, Nat.reduceEqDiff, Nat.reduceBEq, beq_self_eq_true, Bool.not_true, Bool.not_false, Bool.and_true, Bool.and_false, Bool.true_and, Bool.false_and, gI_sI, gI_sL, gI_sA, gI_sM, gL_sI, gL_sL, gL_sA, gL_sM, aI_sI, aI_sL, aI_sA, aI_sM, aL_sI, aL_sL, aL_sA, aL_sM, Blabel_0, Blabel_31, Blabel_33, Blabel_37, Blabel_44, Blabel_46, Blabel_70, Blabel_79, oi_0, oi_1, oi_12, oi_38, oi_39, oi_58, Pu_emit]; try dsimp only
        refine ⟨trivial, fun w11 τ11 hq11 => ?_⟩
        have hq11 := hq11 _ (accY s) n ⟨(SR.x (e_ := 0) (by repeat (first | exact hR4 | refine SR.i ?_ rfl | refine SR.a ?_ rfl))), by omega⟩
        rcases hq11 with ⟨rfl, hF11⟩ | ⟨rfl, hX11, hs2_11⟩
        · dsimp only [Option.toList, List.cons_append, List.nil_append, Nat.beq, gI_sI, gI_sL, gI_sA, gI_sM, gL_sI, gL_sL, gL_sA, gL_sM, aI_sI, aI_sL, aI_sA, aI_sM, aL_sI, aL_sL, aL_sA, aL_sM]
          refine ⟨fun h12 => absurd h12 (by decide), fun h12 => ?_⟩
          clear h12
          refine hB _ _ _ _ _ (fun m13 hm13 => ?_)
          dsimp only [ugo, uwp, ust, uct, rfd, Blabel, Nat.beq, lv_args, rlk, rs1, rs2, rdl, rky, rcd, rno, rsw, Value.category, List.filter, List.take, List.drop, List.reverse, List.reverseAux, List.cons_append, List.nil_append, Option.toList, Int.toNat, Int.reduceToNat, if_pos, if_neg, reduceIte, ↓reduceIte, Nat.reduceAdd, Nat.reduceEqDiff, Nat.reduceBEq, beq_self_eq_true, Bool.not_true, Bool.not_false, Bool.and_true, Bool.and_false, Bool.true_and, Bool.false_and, gI_sI, gI_sL, gI_sA, gI_sM, gL_sI, gL_sL, gL_sA, gL_sM, aI_sI, aI_sL, aI_sA, aI_sM, aL_sI, aL_sL, aL_sA, aL_sM, Blabel_0, Blabel_31, Blabel_33, Blabel_37, Blabel_44, Blabel_46, Blabel_70, Blabel_79, oi_0, oi_1, oi_12, oi_38, oi_39, oi_58, Pu_emit]; try dsimp only
          unfold Qv_label
          try dsimp only
          refine Or.inl ⟨rfl, FlR.g hF11 ?_⟩
          rw [cas_y hc3]
          exact (by repeat (first | with_reducible exact GpY.rf | with_reducible refine GpY.tr ?_ (gd_fo _) | with_reducible refine GpY.tr ?_ (gd_ef _) | with_reducible refine GpY.tr ?_ (gd_cf _) | with_reducible refine GpY.tr ?_ (gd_wt _) | with_reducible refine GpY.tr ?_ (gd_xp _) | with_reducible refine GpY.tr ?_ (gd_acc _) | with_reducible refine GpY.tr ?_ (gd_rai _) | with_reducible refine GpY.tr ?_ (gd_e _) | with_reducible refine GpY.tr ?_ (gd_o _) | with_reducible refine GpY.tr ?_ (gd_c _) | with_reducible refine GpY.tr ?_ (gd_op _) | with_reducible refine GpY.tr ?_ (gd_clp gd_e _ _) | with_reducible refine GpY.tr ?_ (gd_tl _) | with_reducible refine GpY.tr ?_ (gd_sf _ _ _) | with_reducible refine GpY.tr ?_ (gd_cl _) | with_reducible refine GpY.tr ?_ (gd_pc _) | with_reducible refine GpY.tr ?_ (gd_st _) | with_reducible refine GpY.tr ?_ (gd_rw _) | with_reducible refine GpY.tr ?_ (gd_typ _) | with_reducible refine GpY.tr ?_ (gd_dcl _) | with_reducible refine GpY.tr ?_ (gd_va2 _) | with_reducible refine GpY.tr ?_ (gd_cnd _) | with_reducible refine GpY.tr ?_ (gd_tr1 _) | with_reducible refine GpY.tr ?_ (gd_tr2 (fun _ => gd_rw) _) | with_reducible refine GpY.tr ?_ (gd_tr3 (fun _ => gd_rw) _) | with_reducible refine GpY.tr ?_ (gd_fo1 _) | with_reducible refine GpY.tr ?_ (gd_fo2 _) | with_reducible refine GpY.tr ?_ (gd_fo3 _) | with_reducible refine GpY.tr ?_ (gd_fex _) | with_reducible refine GpY.tr ?_ (pg_var.1) | with_reducible refine GpY.tr ?_ (pg_cas.1) | exact GpY.rf))
        · dsimp only [Option.toList, List.cons_append, List.nil_append, Nat.beq, gI_sI, gI_sL, gI_sA, gI_sM, gL_sI, gL_sL, gL_sA, gL_sM, aI_sI, aI_sL, aI_sA, aI_sM, aL_sI, aL_sL, aL_sA, aL_sM]
          have hR11 := SR.kr (e_ := 0) (by repeat (first | exact hR4 | refine SR.i ?_ rfl | refine SR.a ?_ rfl)) hX11 hs2_11
          have hf11 := frR_kr hX11
          refine ⟨fun h14 => ?_, fun h14 => absurd h14 (by decide)⟩
          clear h14
          refine hB _ _ _ _ _ (fun m15 hm15 => ?_)
          dsimp only [ugo, uwp, ust, uct, rfd, Blabel, Nat.beq, lv_args, rlk, rs1, rs2, rdl, rky, rcd, rno, rsw, Value.category, List.filter, List.take, List.drop, List.reverse, List.reverseAux, List.cons_append, List.nil_append, Option.toList, Int.toNat, Int.reduceToNat, if_pos, if_neg, reduceIte, ↓reduceIte, Nat.reduceAdd, Nat.reduceEqDiff, Nat.reduceBEq, beq_self_eq_true, Bool.not_true, Bool.not_false, Bool.and_true, Bool.and_false, Bool.true_and, Bool.false_and, gI_sI, gI_sL, gI_sA, gI_sM, gL_sI, gL_sL, gL_sA, gL_sM, aI_sI, aI_sL, aI_sA, aI_sM, aL_sI, aL_sL, aL_sA, aL_sM, Blabel_0, Blabel_31, Blabel_33, Blabel_37, Blabel_44, Blabel_46, Blabel_70, Blabel_79, oi_0, oi_1, oi_12, oi_38, oi_39, oi_58, Pu_emit]; try dsimp only
          refine ⟨trivial, fun w16 τ16 hq16 => ?_⟩
          obtain ⟨rfl, hE16⟩ := hq16
          have hR16 := SR.em (e_ := 0) (s := (eY n (accY s))) (n := n) (by repeat (first | exact hR11 | refine SR.i ?_ rfl | refine SR.a ?_ rfl)) hE16
          have hf16 := frR_em hE16
          dsimp only [Option.toList, List.cons_append, List.nil_append, Nat.beq, gI_sI, gI_sL, gI_sA, gI_sM, gL_sI, gL_sL, gL_sA, gL_sM, aI_sI, aI_sL, aI_sA, aI_sM, aL_sI, aL_sL, aL_sA, aL_sM]
          have hg16 := Fg_cas hR ((hX11.2.2.1.1 62 rfl).trans (hS4.1 62 (by decide))) ((hX11.2.2.1.2 63 rfl).trans (hS4.2 63)) ((hX11.2.2.1.2 64 rfl).trans (hS4.2 64)) ((hX11.2.2.1.2 51 rfl).trans (hS4.2 51)) (by have := hX11.2.2.2.1; rw [hS4.1 18 (by decide)] at this; exact this) hE16 (by decide) hop h8
          intro p17
          refine hB _ _ _ _ _ (fun m18 hm18 => ?_)
          dsimp only [ugo, uwp, ust, uct, rfd, Blabel, Nat.beq, lv_args, rlk, rs1, rs2, rdl, rky, rcd, rno, rsw, Value.category, List.filter, List.take, List.drop, List.reverse, List.reverseAux, List.cons_append, List.nil_append, Option.toList, Int.toNat, Int.reduceToNat, if_pos, if_neg, reduceIte, ↓reduceIte, Nat.reduceAdd, Nat.reduceEqDiff, Nat.reduceBEq, beq_self_eq_true, Bool.not_true, Bool.not_false, Bool.and_true, Bool.and_false, Bool.true_and, Bool.false_and, gI_sI, gI_sL, gI_sA, gI_sM, gL_sI, gL_sL, gL_sA, gL_sM, aI_sI, aI_sL, aI_sA, aI_sM, aL_sI, aL_sL, aL_sA, aL_sM, Blabel_0, Blabel_31, Blabel_33, Blabel_37, Blabel_44, Blabel_46, Blabel_70, Blabel_79, oi_0, oi_1, oi_12, oi_38, oi_39, oi_58, Pu_emit]; try dsimp only
          refine ⟨trivial, fun w19 τ19 hq19 => ?_⟩
          have hq19 := hq19 _ (eY n (accY s)) n 6 ⟨(SR.x (e_ := 0) (by repeat (first | exact hR16 | refine SR.i ?_ rfl | refine SR.a ?_ rfl))), by decide⟩
          rcases hq19 with ⟨rfl, hF19⟩ | ⟨rfl, hc19, hX19, hz19, hS19⟩
          · dsimp only [Option.toList, List.cons_append, List.nil_append, Nat.beq, gI_sI, gI_sL, gI_sA, gI_sM, gL_sI, gL_sL, gL_sA, gL_sM, aI_sI, aI_sL, aI_sA, aI_sM, aL_sI, aL_sL, aL_sA, aL_sM]
            unfold Qv_label
            try dsimp only
            refine Or.inl ⟨rfl, FlR.g hF19 ?_⟩
            rw [cas_y hc3]
            exact (by repeat (first | with_reducible exact GpY.rf | with_reducible refine GpY.tr ?_ (gd_fo _) | with_reducible refine GpY.tr ?_ (gd_ef _) | with_reducible refine GpY.tr ?_ (gd_cf _) | with_reducible refine GpY.tr ?_ (gd_wt _) | with_reducible refine GpY.tr ?_ (gd_xp _) | with_reducible refine GpY.tr ?_ (gd_acc _) | with_reducible refine GpY.tr ?_ (gd_rai _) | with_reducible refine GpY.tr ?_ (gd_e _) | with_reducible refine GpY.tr ?_ (gd_o _) | with_reducible refine GpY.tr ?_ (gd_c _) | with_reducible refine GpY.tr ?_ (gd_op _) | with_reducible refine GpY.tr ?_ (gd_clp gd_e _ _) | with_reducible refine GpY.tr ?_ (gd_tl _) | with_reducible refine GpY.tr ?_ (gd_sf _ _ _) | with_reducible refine GpY.tr ?_ (gd_cl _) | with_reducible refine GpY.tr ?_ (gd_pc _) | with_reducible refine GpY.tr ?_ (gd_st _) | with_reducible refine GpY.tr ?_ (gd_rw _) | with_reducible refine GpY.tr ?_ (gd_typ _) | with_reducible refine GpY.tr ?_ (gd_dcl _) | with_reducible refine GpY.tr ?_ (gd_va2 _) | with_reducible refine GpY.tr ?_ (gd_cnd _) | with_reducible refine GpY.tr ?_ (gd_tr1 _) | with_reducible refine GpY.tr ?_ (gd_tr2 (fun _ => gd_rw) _) | with_reducible refine GpY.tr ?_ (gd_tr3 (fun _ => gd_rw) _) | with_reducible refine GpY.tr ?_ (gd_fo1 _) | with_reducible refine GpY.tr ?_ (gd_fo2 _) | with_reducible refine GpY.tr ?_ (gd_fo3 _) | with_reducible refine GpY.tr ?_ (gd_fex _) | with_reducible refine GpY.tr ?_ (pg_var.1) | with_reducible refine GpY.tr ?_ (pg_cas.1) | exact GpY.rf))
          · dsimp only [Option.toList, List.cons_append, List.nil_append, Nat.beq, gI_sI, gI_sL, gI_sA, gI_sM, gL_sI, gL_sL, gL_sA, gL_sM, aI_sI, aI_sL, aI_sA, aI_sM, aL_sI, aL_sL, aL_sA, aL_sM]
            have hR19 := SR.kr (e_ := 0) (by repeat (first | exact hR16 | refine SR.i ?_ rfl | refine SR.a ?_ rfl)) hX19 acc2
            have hg19 := FgR.kr (e_ := 0) (s := (eY n (accY s))) (n := n) (by repeat (first | exact hg16 | refine FgR.i ?_ rfl | refine FgR.a ?_ rfl)) (by repeat (first | exact hR16 | refine SR.i ?_ rfl | refine SR.a ?_ rfl)) hX19
            have hf19 := frR_kr hX19
            unfold Qv_label
            try dsimp only
            refine Or.inr ⟨rfl, ?_⟩
            rw [cas_y hc3, xp_y hc19]
            exact ⟨(by repeat (first | exact hR19 | refine SR.i ?_ rfl | refine SR.a ?_ rfl)), (by repeat (first | exact hg19 | refine FgR.i ?_ rfl | refine FgR.a ?_ rfl)), (by simp only [frR_i, frR_a, ne_eq, Nat.reduceEqDiff, not_false_eq_true, hf19, hf16, hf11, hf4])⟩
    · dsimp only [Option.toList, List.cons_append, List.nil_append, Nat.beq, gI_sI, gI_sL, gI_sA, gI_sM, gL_sI, gL_sL, gL_sA, gL_sM, aI_sI, aI_sL, aI_sA, aI_sM, aL_sI, aL_sL, aL_sA, aL_sM]
      have hc3 : ¬ codY s = 62 := fun q => hk3 (he3.mpr q)
      refine ⟨trivial, fun w20 τ20 hq20 => ?_⟩
      have hq20 := hq20 _ s n ⟨(SR.x (e_ := 0) (by repeat (first | exact hR | refine SR.i ?_ rfl | refine SR.a ?_ rfl))), by omega, by omega⟩
      rcases hq20 with ⟨rfl, hF20⟩ | ⟨rfl, hX20, hz20, hS20⟩
      · dsimp only [Option.toList, List.cons_append, List.nil_append, Nat.beq, gI_sI, gI_sL, gI_sA, gI_sM, gL_sI, gL_sL, gL_sA, gL_sM, aI_sI, aI_sL, aI_sA, aI_sM, aL_sI, aL_sL, aL_sA, aL_sM]
        refine ⟨fun h21 => absurd h21 (by decide), fun h21 => ?_⟩
        clear h21
        refine hB _ _ _ _ _ (fun m22 hm22 => ?_)
        dsimp only [ugo, uwp, ust, uct, rfd, Blabel, Nat.beq, lv_args, rlk, rs1, rs2, rdl, rky, rcd, rno, rsw, Value.category, List.filter, List.take, List.drop, List.reverse, List.reverseAux, List.cons_append, List.nil_append, Option.toList, Int.toNat, Int.reduceToNat, if_pos, if_neg, reduceIte, ↓reduceIte, Nat.reduceAdd, Nat.reduceEqDiff, Nat.reduceBEq, beq_self_eq_true, Bool.not_true, Bool.not_false, Bool.and_true, Bool.and_false, Bool.true_and, Bool.false_and, gI_sI, gI_sL, gI_sA, gI_sM, gL_sI, gL_sL, gL_sA, gL_sM, aI_sI, aI_sL, aI_sA, aI_sM, aL_sI, aL_sL, aL_sA, aL_sM, Blabel_0, Blabel_31, Blabel_33, Blabel_37, Blabel_44, Blabel_46, Blabel_70, Blabel_79, oi_0, oi_1, oi_12, oi_38, oi_39, oi_58, Pu_emit]; try dsimp only
        unfold Qv_label
        try dsimp only
        refine Or.inl ⟨rfl, FlR.g hF20 ?_⟩
        rw [cas_n hc3]
        exact (by repeat (first | with_reducible exact GpY.rf | with_reducible refine GpY.tr ?_ (gd_fo _) | with_reducible refine GpY.tr ?_ (gd_ef _) | with_reducible refine GpY.tr ?_ (gd_cf _) | with_reducible refine GpY.tr ?_ (gd_wt _) | with_reducible refine GpY.tr ?_ (gd_xp _) | with_reducible refine GpY.tr ?_ (gd_acc _) | with_reducible refine GpY.tr ?_ (gd_rai _) | with_reducible refine GpY.tr ?_ (gd_e _) | with_reducible refine GpY.tr ?_ (gd_o _) | with_reducible refine GpY.tr ?_ (gd_c _) | with_reducible refine GpY.tr ?_ (gd_op _) | with_reducible refine GpY.tr ?_ (gd_clp gd_e _ _) | with_reducible refine GpY.tr ?_ (gd_tl _) | with_reducible refine GpY.tr ?_ (gd_sf _ _ _) | with_reducible refine GpY.tr ?_ (gd_cl _) | with_reducible refine GpY.tr ?_ (gd_pc _) | with_reducible refine GpY.tr ?_ (gd_st _) | with_reducible refine GpY.tr ?_ (gd_rw _) | with_reducible refine GpY.tr ?_ (gd_typ _) | with_reducible refine GpY.tr ?_ (gd_dcl _) | with_reducible refine GpY.tr ?_ (gd_va2 _) | with_reducible refine GpY.tr ?_ (gd_cnd _) | with_reducible refine GpY.tr ?_ (gd_tr1 _) | with_reducible refine GpY.tr ?_ (gd_tr2 (fun _ => gd_rw) _) | with_reducible refine GpY.tr ?_ (gd_tr3 (fun _ => gd_rw) _) | with_reducible refine GpY.tr ?_ (gd_fo1 _) | with_reducible refine GpY.tr ?_ (gd_fo2 _) | with_reducible refine GpY.tr ?_ (gd_fo3 _) | with_reducible refine GpY.tr ?_ (gd_fex _) | with_reducible refine GpY.tr ?_ (pg_var.1) | with_reducible refine GpY.tr ?_ (pg_cas.1) | exact GpY.rf))
      · dsimp only [Option.toList, List.cons_append, List.nil_append, Nat.beq, gI_sI, gI_sL, gI_sA, gI_sM, gL_sI, gL_sL, gL_sA, gL_sM, aI_sI, aI_sL, aI_sA, aI_sM, aL_sI, aL_sL, aL_sA, aL_sM]
        have hR20 := SR.kr (e_ := 0) (by repeat (first | exact hR | refine SR.i ?_ rfl | refine SR.a ?_ rfl)) hX20 acc2
        have hf20 := frR_kr hX20
        refine ⟨fun h23 => ?_, fun h23 => absurd h23 (by decide)⟩
        clear h23
        refine hB _ _ _ _ _ (fun m24 hm24 => ?_)
        dsimp only [ugo, uwp, ust, uct, rfd, Blabel, Nat.beq, lv_args, rlk, rs1, rs2, rdl, rky, rcd, rno, rsw, Value.category, List.filter, List.take, List.drop, List.reverse, List.reverseAux, List.cons_append, List.nil_append, Option.toList, Int.toNat, Int.reduceToNat, if_pos, if_neg, reduceIte, ↓reduceIte, Nat.reduceAdd, Nat.reduceEqDiff, Nat.reduceBEq, beq_self_eq_true, Bool.not_true, Bool.not_false, Bool.and_true, Bool.and_false, Bool.true_and, Bool.false_and, gI_sI, gI_sL, gI_sA, gI_sM, gL_sI, gL_sL, gL_sA, gL_sM, aI_sI, aI_sL, aI_sA, aI_sM, aL_sI, aL_sL, aL_sA, aL_sM, Blabel_0, Blabel_31, Blabel_33, Blabel_37, Blabel_44, Blabel_46, Blabel_70, Blabel_79, oi_0, oi_1, oi_12, oi_38, oi_39, oi_58, Pu_emit]; try dsimp only
        refine ⟨fun h25 => ?_, fun h25 => absurd h25 (by decide)⟩
        clear h25
        refine hB _ _ _ _ _ (fun m26 hm26 => ?_)
        dsimp only [ugo, uwp, ust, uct, rfd, Blabel, Nat.beq, lv_args, rlk, rs1, rs2, rdl, rky, rcd, rno, rsw, Value.category, List.filter, List.take, List.drop, List.reverse, List.reverseAux, List.cons_append, List.nil_append, Option.toList, Int.toNat, Int.reduceToNat, if_pos, if_neg, reduceIte, ↓reduceIte, Nat.reduceAdd, Nat.reduceEqDiff, Nat.reduceBEq, beq_self_eq_true, Bool.not_true, Bool.not_false, Bool.and_true, Bool.and_false, Bool.true_and, Bool.false_and, gI_sI, gI_sL, gI_sA, gI_sM, gL_sI, gL_sL, gL_sA, gL_sM, aI_sI, aI_sL, aI_sA, aI_sM, aL_sI, aL_sL, aL_sA, aL_sM, Blabel_0, Blabel_31, Blabel_33, Blabel_37, Blabel_44, Blabel_46, Blabel_70, Blabel_79, oi_0, oi_1, oi_12, oi_38, oi_39, oi_58, Pu_emit]; try dsimp only
        refine ⟨trivial, fun w27 τ27 hq27 => ?_⟩
        obtain ⟨rfl, hE27⟩ := hq27
        have hR27 := SR.em (e_ := 0) (s := (accY s)) (n := n) (by repeat (first | exact hR20 | refine SR.i ?_ rfl | refine SR.a ?_ rfl)) hE27
        have hf27 := frR_em hE27
        dsimp only [Option.toList, List.cons_append, List.nil_append, Nat.beq, gI_sI, gI_sL, gI_sA, gI_sM, gL_sI, gL_sL, gL_sA, gL_sM, aI_sI, aI_sL, aI_sA, aI_sM, aL_sI, aL_sL, aL_sA, aL_sM]
        have hg27 := Fg_cas hR (hS20.1 62 (by decide)) (hS20.2 63) (hS20.2 64) (hS20.2 51) (by rw [hS20.1 18 (by decide)]; exact Nat.le_refl _) hE27 (by decide) hop h8
        refine hB _ _ _ _ _ (fun m28 hm28 => ?_)
        dsimp only [ugo, uwp, ust, uct, rfd, Blabel, Nat.beq, lv_args, rlk, rs1, rs2, rdl, rky, rcd, rno, rsw, Value.category, List.filter, List.take, List.drop, List.reverse, List.reverseAux, List.cons_append, List.nil_append, Option.toList, Int.toNat, Int.reduceToNat, if_pos, if_neg, reduceIte, ↓reduceIte, Nat.reduceAdd, Nat.reduceEqDiff, Nat.reduceBEq, beq_self_eq_true, Bool.not_true, Bool.not_false, Bool.and_true, Bool.and_false, Bool.true_and, Bool.false_and, gI_sI, gI_sL, gI_sA, gI_sM, gL_sI, gL_sL, gL_sA, gL_sM, aI_sI, aI_sL, aI_sA, aI_sM, aL_sI, aL_sL, aL_sA, aL_sM, Blabel_0, Blabel_31, Blabel_33, Blabel_37, Blabel_44, Blabel_46, Blabel_70, Blabel_79, oi_0, oi_1, oi_12, oi_38, oi_39, oi_58, Pu_emit]; try dsimp only
        refine ⟨trivial, fun w29 τ29 hq29 => ?_⟩
        have hq29 := hq29 _ (accY s) n 6 ⟨(SR.x (e_ := 0) (by repeat (first | exact hR27 | refine SR.i ?_ rfl | refine SR.a ?_ rfl))), by decide⟩
        rcases hq29 with ⟨rfl, hF29⟩ | ⟨rfl, hc29, hX29, hz29, hS29⟩
        · dsimp only [Option.toList, List.cons_append, List.nil_append, Nat.beq, gI_sI, gI_sL, gI_sA, gI_sM, gL_sI, gL_sL, gL_sA, gL_sM, aI_sI, aI_sL, aI_sA, aI_sM, aL_sI, aL_sL, aL_sA, aL_sM]
          unfold Qv_label
          try dsimp only
          refine Or.inl ⟨rfl, FlR.g hF29 ?_⟩
          rw [cas_n hc3]
          exact (by repeat (first | with_reducible exact GpY.rf | with_reducible refine GpY.tr ?_ (gd_fo _) | with_reducible refine GpY.tr ?_ (gd_ef _) | with_reducible refine GpY.tr ?_ (gd_cf _) | with_reducible refine GpY.tr ?_ (gd_wt _) | with_reducible refine GpY.tr ?_ (gd_xp _) | with_reducible refine GpY.tr ?_ (gd_acc _) | with_reducible refine GpY.tr ?_ (gd_rai _) | with_reducible refine GpY.tr ?_ (gd_e _) | with_reducible refine GpY.tr ?_ (gd_o _) | with_reducible refine GpY.tr ?_ (gd_c _) | with_reducible refine GpY.tr ?_ (gd_op _) | with_reducible refine GpY.tr ?_ (gd_clp gd_e _ _) | with_reducible refine GpY.tr ?_ (gd_tl _) | with_reducible refine GpY.tr ?_ (gd_sf _ _ _) | with_reducible refine GpY.tr ?_ (gd_cl _) | with_reducible refine GpY.tr ?_ (gd_pc _) | with_reducible refine GpY.tr ?_ (gd_st _) | with_reducible refine GpY.tr ?_ (gd_rw _) | with_reducible refine GpY.tr ?_ (gd_typ _) | with_reducible refine GpY.tr ?_ (gd_dcl _) | with_reducible refine GpY.tr ?_ (gd_va2 _) | with_reducible refine GpY.tr ?_ (gd_cnd _) | with_reducible refine GpY.tr ?_ (gd_tr1 _) | with_reducible refine GpY.tr ?_ (gd_tr2 (fun _ => gd_rw) _) | with_reducible refine GpY.tr ?_ (gd_tr3 (fun _ => gd_rw) _) | with_reducible refine GpY.tr ?_ (gd_fo1 _) | with_reducible refine GpY.tr ?_ (gd_fo2 _) | with_reducible refine GpY.tr ?_ (gd_fo3 _) | with_reducible refine GpY.tr ?_ (gd_fex _) | with_reducible refine GpY.tr ?_ (pg_var.1) | with_reducible refine GpY.tr ?_ (pg_cas.1) | exact GpY.rf))
        · dsimp only [Option.toList, List.cons_append, List.nil_append, Nat.beq, gI_sI, gI_sL, gI_sA, gI_sM, gL_sI, gL_sL, gL_sA, gL_sM, aI_sI, aI_sL, aI_sA, aI_sM, aL_sI, aL_sL, aL_sA, aL_sM]
          have hR29 := SR.kr (e_ := 0) (by repeat (first | exact hR27 | refine SR.i ?_ rfl | refine SR.a ?_ rfl)) hX29 acc2
          have hg29 := FgR.kr (e_ := 0) (s := (accY s)) (n := n) (by repeat (first | exact hg27 | refine FgR.i ?_ rfl | refine FgR.a ?_ rfl)) (by repeat (first | exact hR27 | refine SR.i ?_ rfl | refine SR.a ?_ rfl)) hX29
          have hf29 := frR_kr hX29
          unfold Qv_label
          try dsimp only
          refine Or.inr ⟨rfl, ?_⟩
          rw [cas_n hc3, xp_y hc29]
          exact ⟨(by repeat (first | exact hR29 | refine SR.i ?_ rfl | refine SR.a ?_ rfl)), (by repeat (first | exact hg29 | refine FgR.i ?_ rfl | refine FgR.a ?_ rfl)), (by simp only [frR_i, frR_a, ne_eq, Nat.reduceEqDiff, not_false_eq_true, hf29, hf27, hf20])⟩
  next => exact hP.elim
theorem w_label : UMet 59 (fun _ _ => True) Qw_label := fun A1 σ _ w τ h s n hP => v_label s n A1 σ hP w τ h
def Pv_closeSwitch (s : SpC) (n : Nat) : UP1 := fun A1 σ => match A1 with
  | [] => SR σ s n ∧ 0 < gI σ 62 ∧ codY s = 3
  | _ => False
def Qv_closeSwitch (s : SpC) (n : Nat) : UQ1 := fun A1 σ w τ => match A1 with
  | [] => StQ τ (sfY (frR σ).tail (n + 1) (accY s)) w
  | _ => False
def Qw_closeSwitch : UQ1 := fun A1 σ w τ => ∀ (s : SpC) (n : Nat), Pv_closeSwitch s n A1 σ → Qv_closeSwitch s n A1 σ w τ
set_option maxRecDepth 100000 in
set_option maxHeartbeats 4000000 in
theorem v_closeSwitch (s : SpC) (n : Nat) : UMet 60 (Pv_closeSwitch s n) (Qv_closeSwitch s n) := by
  refine UMet.by BcloseSwitch [(61, (fun _ _ => True), Qw_closed), (20, Pu_emit, Qu_emit), (42, Pu_leave, Qu_leave), (17, (fun _ _ => True), Qw_take)] rfl (ucc w_closed (ucc u_emit (ucc u_leave (ucc w_take uc0)))) ?_
  intro A1 σ hP K hB hW
  unfold Pv_closeSwitch at hP
  split at hP
  next =>
    obtain ⟨hR, hop, hcd⟩ := hP
    intro n0_
    refine hB _ _ _ _ _ (fun m1 hm1 => ?_)
    dsimp only [ugo, uwp, ust, uct, rfd, BcloseSwitch, Nat.beq, lv_args, rlk, rs1, rs2, rdl, rky, rcd, rno, rsw, Value.category, List.filter, List.take, List.drop, List.reverse, List.reverseAux, List.cons_append, List.nil_append, Option.toList, Int.toNat, Int.reduceToNat, if_pos, if_neg, reduceIte, ↓reduceIte, Nat.reduceAdd, Nat.reduceEqDiff, Nat.reduceBEq, beq_self_eq_true, Bool.not_true, Bool.not_false, Bool.and_true, Bool.and_false, Bool.true_and, Bool.false_and, gI_sI, gI_sL, gI_sA, gI_sM, gL_sI, gL_sL, gL_sA, gL_sM, aI_sI, aI_sL, aI_sA, aI_sM, aL_sI, aL_sL, aL_sA, aL_sM, BcloseSwitch_0, BcloseSwitch_40, BcloseSwitch_42, oi_0, oi_1, oi_40, Pu_emit, Pu_leave]; try dsimp only
    intro p2
    intro p3
    refine ⟨trivial, fun w4 τ4 hq4 => ?_⟩
    obtain ⟨rfl, f4, rfl⟩ := hq4
    dsimp only [Option.toList, List.cons_append, List.nil_append, Nat.beq, gI_sI, gI_sL, gI_sA, gI_sM, gL_sI, gL_sL, gL_sA, gL_sM, aI_sI, aI_sL, aI_sA, aI_sM, aL_sI, aL_sL, aL_sA, aL_sM]
    refine ⟨trivial, fun w5 τ5 hq5 => ?_⟩
    have hq5 := hq5 _ s n ⟨(SR.x (e_ := 0) (by repeat (first | exact hR | refine SR.i ?_ rfl | refine SR.a ?_ rfl))), by omega, by omega⟩
    rcases hq5 with ⟨rfl, hF5⟩ | ⟨rfl, hX5, hz5, hS5⟩
    · dsimp only [Option.toList, List.cons_append, List.nil_append, Nat.beq, gI_sI, gI_sL, gI_sA, gI_sM, gL_sI, gL_sL, gL_sA, gL_sM, aI_sI, aI_sL, aI_sA, aI_sM, aL_sI, aL_sL, aL_sA, aL_sM]
      refine ⟨fun h6 => absurd h6 (by decide), fun h6 => ?_⟩
      clear h6
      refine hB _ _ _ _ _ (fun m7 hm7 => ?_)
      dsimp only [ugo, uwp, ust, uct, rfd, BcloseSwitch, Nat.beq, lv_args, rlk, rs1, rs2, rdl, rky, rcd, rno, rsw, Value.category, List.filter, List.take, List.drop, List.reverse, List.reverseAux, List.cons_append, List.nil_append, Option.toList, Int.toNat, Int.reduceToNat, if_pos, if_neg, reduceIte, ↓reduceIte, Nat.reduceAdd, Nat.reduceEqDiff, Nat.reduceBEq, beq_self_eq_true, Bool.not_true, Bool.not_false, Bool.and_true, Bool.and_false, Bool.true_and, Bool.false_and, gI_sI, gI_sL, gI_sA, gI_sM, gL_sI, gL_sL, gL_sA, gL_sM, aI_sI, aI_sL, aI_sA, aI_sM, aL_sI, aL_sL, aL_sA, aL_sM, BcloseSwitch_0, BcloseSwitch_40, BcloseSwitch_42, oi_0, oi_1, oi_40, Pu_emit, Pu_leave]; try dsimp only
      unfold Qv_closeSwitch
      try dsimp only
      refine StQ.f hF5 ?_
      exact (by repeat (first | with_reducible exact GpY.rf | with_reducible refine GpY.tr ?_ (gd_fo _) | with_reducible refine GpY.tr ?_ (gd_ef _) | with_reducible refine GpY.tr ?_ (gd_cf _) | with_reducible refine GpY.tr ?_ (gd_wt _) | with_reducible refine GpY.tr ?_ (gd_xp _) | with_reducible refine GpY.tr ?_ (gd_acc _) | with_reducible refine GpY.tr ?_ (gd_rai _) | with_reducible refine GpY.tr ?_ (gd_e _) | with_reducible refine GpY.tr ?_ (gd_o _) | with_reducible refine GpY.tr ?_ (gd_c _) | with_reducible refine GpY.tr ?_ (gd_op _) | with_reducible refine GpY.tr ?_ (gd_clp gd_e _ _) | with_reducible refine GpY.tr ?_ (gd_tl _) | with_reducible refine GpY.tr ?_ (gd_sf _ _ _) | with_reducible refine GpY.tr ?_ (gd_cl _) | with_reducible refine GpY.tr ?_ (gd_pc _) | with_reducible refine GpY.tr ?_ (gd_st _) | with_reducible refine GpY.tr ?_ (gd_rw _) | with_reducible refine GpY.tr ?_ (gd_typ _) | with_reducible refine GpY.tr ?_ (gd_dcl _) | with_reducible refine GpY.tr ?_ (gd_va2 _) | with_reducible refine GpY.tr ?_ (gd_cnd _) | with_reducible refine GpY.tr ?_ (gd_tr1 _) | with_reducible refine GpY.tr ?_ (gd_tr2 (fun _ => gd_rw) _) | with_reducible refine GpY.tr ?_ (gd_tr3 (fun _ => gd_rw) _) | with_reducible refine GpY.tr ?_ (gd_fo1 _) | with_reducible refine GpY.tr ?_ (gd_fo2 _) | with_reducible refine GpY.tr ?_ (gd_fo3 _) | with_reducible refine GpY.tr ?_ (gd_fex _) | with_reducible refine GpY.tr ?_ (pg_var.1) | with_reducible refine GpY.tr ?_ (pg_cas.1) | exact GpY.rf))
    · dsimp only [Option.toList, List.cons_append, List.nil_append, Nat.beq, gI_sI, gI_sL, gI_sA, gI_sM, gL_sI, gL_sL, gL_sA, gL_sM, aI_sI, aI_sL, aI_sA, aI_sM, aL_sI, aL_sL, aL_sA, aL_sM]
      have hR5 := SR.kr (e_ := 0) (by repeat (first | exact hR | refine SR.i ?_ rfl | refine SR.a ?_ rfl)) hX5 acc2
      have hf5 := frR_kr hX5
      refine ⟨fun h8 => ?_, fun h8 => absurd h8 (by decide)⟩
      clear h8
      refine hB _ _ _ _ _ (fun m9 hm9 => ?_)
      dsimp only [ugo, uwp, ust, uct, rfd, BcloseSwitch, Nat.beq, lv_args, rlk, rs1, rs2, rdl, rky, rcd, rno, rsw, Value.category, List.filter, List.take, List.drop, List.reverse, List.reverseAux, List.cons_append, List.nil_append, Option.toList, Int.toNat, Int.reduceToNat, if_pos, if_neg, reduceIte, ↓reduceIte, Nat.reduceAdd, Nat.reduceEqDiff, Nat.reduceBEq, beq_self_eq_true, Bool.not_true, Bool.not_false, Bool.and_true, Bool.and_false, Bool.true_and, Bool.false_and, gI_sI, gI_sL, gI_sA, gI_sM, gL_sI, gL_sL, gL_sA, gL_sM, aI_sI, aI_sL, aI_sA, aI_sM, aL_sI, aL_sL, aL_sA, aL_sM, BcloseSwitch_0, BcloseSwitch_40, BcloseSwitch_42, oi_0, oi_1, oi_40, Pu_emit, Pu_leave]; try dsimp only
      intro p10
      refine ⟨trivial, fun w11 τ11 hq11 => ?_⟩
      obtain ⟨rfl, hE11⟩ := hq11
      have hR11 := SR.em (e_ := 0) (s := (accY s)) (n := n) (by repeat (first | exact hR5 | refine SR.i ?_ rfl | refine SR.a ?_ rfl)) hE11
      have hf11 := frR_em hE11
      dsimp only [Option.toList, List.cons_append, List.nil_append, Nat.beq, gI_sI, gI_sL, gI_sA, gI_sM, gL_sI, gL_sL, gL_sA, gL_sM, aI_sI, aI_sL, aI_sA, aI_sM, aL_sI, aL_sL, aL_sA, aL_sM]
      intro p12
      refine ⟨trivial, fun w13 τ13 hq13 => ?_⟩
      have hq13 : StQ τ13 _ w13 := hq13 (accY s) n ⟨(by repeat (first | exact hR11 | refine SR.i ?_ rfl | refine SR.a ?_ rfl)), (by show 0 < gI τ11 62; rw [hE11.1 62 (by decide)]; show 0 < gI τ5 62; rw [hS5.1 62 (by decide)]; exact hop)⟩
      have hv13 : w13 = some (.int 0) ∨ w13 = some (.int 1) := hq13.imp (fun q => q.1) (fun q => q.1)
      rcases hv13 with rfl | rfl
      · dsimp only [Option.toList, List.cons_append, List.nil_append, Nat.beq, gI_sI, gI_sL, gI_sA, gI_sM, gL_sI, gL_sL, gL_sA, gL_sM, aI_sI, aI_sL, aI_sA, aI_sM, aL_sI, aL_sL, aL_sA, aL_sM]
        unfold Qv_closeSwitch
        try dsimp only
        have hq_ := hq13
        simp only [frR_i, frR_a, ne_eq, Nat.reduceEqDiff, not_false_eq_true, hf11, hf5] at hq_
        exact hq_
      · dsimp only [Option.toList, List.cons_append, List.nil_append, Nat.beq, gI_sI, gI_sL, gI_sA, gI_sM, gL_sI, gL_sL, gL_sA, gL_sM, aI_sI, aI_sL, aI_sA, aI_sM, aL_sI, aL_sL, aL_sA, aL_sM]
        unfold Qv_closeSwitch
        try dsimp only
        have hq_ := hq13
        simp only [frR_i, frR_a, ne_eq, Nat.reduceEqDiff, not_false_eq_true, hf11, hf5] at hq_
        exact hq_
  next => exact hP.elim
theorem w_closeSwitch : UMet 60 (fun _ _ => True) Qw_closeSwitch := fun A1 σ _ w τ h s n hP => v_closeSwitch s n A1 σ hP w τ h
