def Pj_finished : JPr := fun A1 A2 σ ρ => match A1, A2 with
  | [], [] => Rj 1 σ ρ
  | _, _ => False
def Qj_finished : JQr := fun A1 A2 σ ρ w τ w' τ' => match A1, A2 with
  | [], [] => ∃ b : Int32, w = some (.int b) ∧ w' = some (.int b) ∧ (b = 0 ∨ (b = 1 ∧ Rj 1 τ τ'))
  | _, _ => False
set_option maxRecDepth 100000 in
set_option maxHeartbeats 4000000 in
theorem j_finished : JMet 69 Pj_finished Qj_finished := by
  refine JMet.by Bfinished [(13, (fun A1 A2 σ ρ => Pu_cant A1 σ ∧ Pu_cant A2 ρ), (fun A1 A2 σ ρ w τ w' τ' => Qu_cant A1 σ w τ ∧ Qu_cant A2 ρ w' τ')), (52, Pj_condition, Qj_condition), (20, (fun A1 A2 σ ρ => Pu_emit A1 σ ∧ Pu_emit A2 ρ), (fun A1 A2 σ ρ w τ w' τ' => Qu_emit A1 σ w τ ∧ Qu_emit A2 ρ w' τ')), (19, Pj_enter, Qj_enter), (43, Pj_isRow, Qj_isRow), (15, Pj_isWord, Qj_isWord), (42, (fun A1 A2 σ ρ => Pu_leave A1 σ ∧ Pu_leave A2 ρ), (fun A1 A2 σ ρ w τ w' τ' => Qu_leave A1 σ w τ ∧ Qu_leave A2 ρ w' τ')), (17, Pj_take, Qj_take), (18, Pj_want, Qj_want)] rfl (jcc (JMet.u u_cant) (jcc j_condition (jcc (JMet.u u_emit) (jcc j_enter (jcc j_isRow (jcc j_isWord (jcc (JMet.u u_leave) (jcc j_take (jcc j_want jc0))))))))) ?_
  intro A1 A2 σ ρ hP K hB hW
  unfold Pj_finished at hP
  split at hP
  next =>
    have hR := hP
    have loop : ∀ (n : Nat) (X Y : RS) (more : Int32), Rj 1 X Y → (¬ more = 0 → 0 < gI X 62) → K n 13 [(0, .ref 1000), (1, .int more)] [(0, .ref 1000), (1, .int more)] [] [] X Y := by
      intro n
      induction n using Nat.strongRecOn with
      | ind n loop =>
        have t351 : ∀ n' : Nat, n' < n → ∀ (X Y : RS) (s s' : Int32), Rj 1 X Y → K n' 351 [(0, .ref 1000), (4, .int s)] [(0, .ref 1000), (4, .int s')] [] [] X Y := by
          intro n' hn' X Y s s' hR
          refine hB _ _ _ _ _ _ _ _ (fun m1 hm1 => ?_)
          dsimp only [jgo, jwp, jst, jct, rfd, Bfinished, Nat.beq, lv_args, rlk, rs1, rs2, rdl, rky, rcd, rno, rsw, Value.category, List.filter, List.take, List.drop, List.reverse, List.reverseAux, List.cons_append, List.nil_append, Option.toList, Int.toNat, Int.reduceToNat, if_pos, if_neg, reduceIte, ↓reduceIte, Nat.reduceAdd, Nat.reduceEqDiff, Nat.reduceBEq, beq_self_eq_true, Bool.not_true, Bool.not_false, Bool.and_true, Bool.and_false, Bool.true_and, Bool.false_and, gI_sI, gI_sL, gI_sA, gI_sM, gL_sI, gL_sL, gL_sA, gL_sM, aI_sI, aI_sL, aI_sA, aI_sM, aL_sI, aL_sL, aL_sA, aL_sM, Bfinished_0, Bfinished_7, Bfinished_11, Bfinished_12, Bfinished_13, Bfinished_17, Bfinished_37, Bfinished_43, Bfinished_45, Bfinished_85, Bfinished_94, Bfinished_118, Bfinished_120, Bfinished_137, Bfinished_152, Bfinished_157, Bfinished_179, Bfinished_184, Bfinished_206, Bfinished_211, Bfinished_220, Bfinished_225, Bfinished_232, Bfinished_234, Bfinished_260, Bfinished_269, Bfinished_271, Bfinished_293, Bfinished_299, Bfinished_332, Bfinished_351, Bfinished_374, Bfinished_378, Bfinished_379, Bfinished_383, oi_0, oi_1, oi_2, oi_24, oi_25, oi_28, oi_3, oi_30, oi_31, oi_36, oi_4, oi_42, oi_45, oi_5, oi_59, oi_6, oi_7, oi_8, Pu_cant, Pj_condition, Pu_emit, Pj_enter, Pj_isRow, Pj_isWord, Pu_leave, Pj_take, Pj_want]; try dsimp only
          try simp only [hR.e2, hR.e14, hR.e15, hR.e17, hR.e18, hR.e36, hR.e42, hR.e49, hR.e62, hR.a3, hR.a6, hR.a51, hR.a19, hR.a63, hR.a64, hR.hp]
          intro p2 q2
          try simp only [hR.e2, hR.e14, hR.e15, hR.e17, hR.e18, hR.e36, hR.e42, hR.e49, hR.e62, hR.a3, hR.a6, hR.a51, hR.a19, hR.a63, hR.a64, hR.hp]
          refine ⟨⟨trivial, trivial⟩, fun w3 τ3 w3' τ3' hq3 => ?_⟩
          obtain ⟨⟨rfl, hE3⟩, rfl, hF3⟩ := hq3
          have hR3 : Rj 1 τ3 τ3' := Rj.em (by (repeat (first | exact hR | refine Rj.i ?_ rfl | refine Rj.a ?_ rfl | refine Rj.m ?_ | refine Rj.s ?_ (by decide) | refine Rj.o1 ?_ (by first | lia | (dsimp only [Nat.beq, gI_sI, gI_sL, gI_sA, gI_sM, gL_sI, gL_sL, gL_sA, gL_sM, aI_sI, aI_sL, aI_sA, aI_sM, aL_sI, aL_sL, aL_sA, aL_sM]; lia)) | refine Rj.o2 ?_ | refine Rj.f1 ?_ (by first | lia | (dsimp only [Nat.beq, gI_sI, gI_sL, gI_sA, gI_sM, gL_sI, gL_sL, gL_sA, gL_sM, aI_sI, aI_sL, aI_sA, aI_sM, aL_sI, aL_sL, aL_sA, aL_sM]; lia)) | refine Rj.f2 ?_ | refine Rj.fs ?_))) hE3 hF3 (by first | exact fun _ => rfl | exact fun q => absurd q (by decide))
          have hp3 := hE3.1 14 (by decide)
          have ho3 := hE3.1 29 (by decide)
          have hh3 := hE3.1 62 (by decide)
          have hg3 := hE3.1 49 (by decide)
          have hw3 := hE3.1 34 (by decide)
          have hv3 := hF3.1 34 (by decide)
          have ht3 := hE3.2.2.2.2.1 3 (by decide)
          try dsimp only [Nat.beq, gI_sI, gI_sL, gI_sA, gI_sM, gL_sI, gL_sL, gL_sA, gL_sM, aI_sI, aI_sL, aI_sA, aI_sM, aL_sI, aL_sL, aL_sA, aL_sM] at hp3
          try dsimp only [Nat.beq, gI_sI, gI_sL, gI_sA, gI_sM, gL_sI, gL_sL, gL_sA, gL_sM, aI_sI, aI_sL, aI_sA, aI_sM, aL_sI, aL_sL, aL_sA, aL_sM] at ho3
          try dsimp only [Nat.beq, gI_sI, gI_sL, gI_sA, gI_sM, gL_sI, gL_sL, gL_sA, gL_sM, aI_sI, aI_sL, aI_sA, aI_sM, aL_sI, aL_sL, aL_sA, aL_sM] at hh3
          try dsimp only [Nat.beq, gI_sI, gI_sL, gI_sA, gI_sM, gL_sI, gL_sL, gL_sA, gL_sM, aI_sI, aI_sL, aI_sA, aI_sM, aL_sI, aL_sL, aL_sA, aL_sM] at hg3
          try dsimp only [Nat.beq, gI_sI, gI_sL, gI_sA, gI_sM, gL_sI, gL_sL, gL_sA, gL_sM, aI_sI, aI_sL, aI_sA, aI_sM, aL_sI, aL_sL, aL_sA, aL_sM] at hw3
          try dsimp only [Nat.beq, gI_sI, gI_sL, gI_sA, gI_sM, gL_sI, gL_sL, gL_sA, gL_sM, aI_sI, aI_sL, aI_sA, aI_sM, aL_sI, aL_sL, aL_sA, aL_sM] at hv3
          try dsimp only [Nat.beq, gI_sI, gI_sL, gI_sA, gI_sM, gL_sI, gL_sL, gL_sA, gL_sM, aI_sI, aI_sL, aI_sA, aI_sM, aL_sI, aL_sL, aL_sA, aL_sM] at ht3
          have hz3 := congrFun ht3 (gI τ3 14).toNatClampNeg
          dsimp only [Option.toList, List.cons_append, List.nil_append, Nat.beq, gI_sI, gI_sL, gI_sA, gI_sM, gL_sI, gL_sL, gL_sA, gL_sM, aI_sI, aI_sL, aI_sA, aI_sM, aL_sI, aL_sL, aL_sA, aL_sM]
          try simp only [hR3.e2, hR3.e14, hR3.e15, hR3.e17, hR3.e18, hR3.e36, hR3.e42, hR3.e49, hR3.e62, hR3.a3, hR3.a6, hR3.a51, hR3.a19, hR3.a63, hR3.a64, hR3.hp, hR.e18]
          refine ⟨fun h4 => ⟨(by exact h4), ?_⟩, fun h4 => ⟨(by exact h4), ?_⟩⟩
          · refine hB _ _ _ _ _ _ _ _ (fun m5 hm5 => ?_)
            dsimp only [jgo, jwp, jst, jct, rfd, Bfinished, Nat.beq, lv_args, rlk, rs1, rs2, rdl, rky, rcd, rno, rsw, Value.category, List.filter, List.take, List.drop, List.reverse, List.reverseAux, List.cons_append, List.nil_append, Option.toList, Int.toNat, Int.reduceToNat, if_pos, if_neg, reduceIte, ↓reduceIte, Nat.reduceAdd, Nat.reduceEqDiff, Nat.reduceBEq, beq_self_eq_true, Bool.not_true, Bool.not_false, Bool.and_true, Bool.and_false, Bool.true_and, Bool.false_and, gI_sI, gI_sL, gI_sA, gI_sM, gL_sI, gL_sL, gL_sA, gL_sM, aI_sI, aI_sL, aI_sA, aI_sM, aL_sI, aL_sL, aL_sA, aL_sM, Bfinished_0, Bfinished_7, Bfinished_11, Bfinished_12, Bfinished_13, Bfinished_17, Bfinished_37, Bfinished_43, Bfinished_45, Bfinished_85, Bfinished_94, Bfinished_118, Bfinished_120, Bfinished_137, Bfinished_152, Bfinished_157, Bfinished_179, Bfinished_184, Bfinished_206, Bfinished_211, Bfinished_220, Bfinished_225, Bfinished_232, Bfinished_234, Bfinished_260, Bfinished_269, Bfinished_271, Bfinished_293, Bfinished_299, Bfinished_332, Bfinished_351, Bfinished_374, Bfinished_378, Bfinished_379, Bfinished_383, oi_0, oi_1, oi_2, oi_24, oi_25, oi_28, oi_3, oi_30, oi_31, oi_36, oi_4, oi_42, oi_45, oi_5, oi_59, oi_6, oi_7, oi_8, Pu_cant, Pj_condition, Pu_emit, Pj_enter, Pj_isRow, Pj_isWord, Pu_leave, Pj_take, Pj_want]; try dsimp only
            try simp only [hR3.e2, hR3.e14, hR3.e15, hR3.e17, hR3.e18, hR3.e36, hR3.e42, hR3.e49, hR3.e62, hR3.a3, hR3.a6, hR3.a51, hR3.a19, hR3.a63, hR3.a64, hR3.hp, hR.e18]
            refine hB _ _ _ _ _ _ _ _ (fun m6 hm6 => ?_)
            dsimp only [jgo, jwp, jst, jct, rfd, Bfinished, Nat.beq, lv_args, rlk, rs1, rs2, rdl, rky, rcd, rno, rsw, Value.category, List.filter, List.take, List.drop, List.reverse, List.reverseAux, List.cons_append, List.nil_append, Option.toList, Int.toNat, Int.reduceToNat, if_pos, if_neg, reduceIte, ↓reduceIte, Nat.reduceAdd, Nat.reduceEqDiff, Nat.reduceBEq, beq_self_eq_true, Bool.not_true, Bool.not_false, Bool.and_true, Bool.and_false, Bool.true_and, Bool.false_and, gI_sI, gI_sL, gI_sA, gI_sM, gL_sI, gL_sL, gL_sA, gL_sM, aI_sI, aI_sL, aI_sA, aI_sM, aL_sI, aL_sL, aL_sA, aL_sM, Bfinished_0, Bfinished_7, Bfinished_11, Bfinished_12, Bfinished_13, Bfinished_17, Bfinished_37, Bfinished_43, Bfinished_45, Bfinished_85, Bfinished_94, Bfinished_118, Bfinished_120, Bfinished_137, Bfinished_152, Bfinished_157, Bfinished_179, Bfinished_184, Bfinished_206, Bfinished_211, Bfinished_220, Bfinished_225, Bfinished_232, Bfinished_234, Bfinished_260, Bfinished_269, Bfinished_271, Bfinished_293, Bfinished_299, Bfinished_332, Bfinished_351, Bfinished_374, Bfinished_378, Bfinished_379, Bfinished_383, oi_0, oi_1, oi_2, oi_24, oi_25, oi_28, oi_3, oi_30, oi_31, oi_36, oi_4, oi_42, oi_45, oi_5, oi_59, oi_6, oi_7, oi_8, Pu_cant, Pj_condition, Pu_emit, Pj_enter, Pj_isRow, Pj_isWord, Pu_leave, Pj_take, Pj_want]; try dsimp only
            try simp only [hR3.e2, hR3.e14, hR3.e15, hR3.e17, hR3.e18, hR3.e36, hR3.e42, hR3.e49, hR3.e62, hR3.a3, hR3.a6, hR3.a51, hR3.a19, hR3.a63, hR3.a64, hR3.hp, hR.e18]
            exact hW _ 13 [(0, .ref 1000), (1, .int 0)] [(0, .ref 1000), (1, .int 0)] _ _ _ _ _ _ (by simp [rdl, rky]) (by simp [rdl, rky]) (loop _ (by omega) _ _ 0 (by (repeat (first | exact hR3 | refine Rj.i ?_ rfl | refine Rj.a ?_ rfl | refine Rj.m ?_ | refine Rj.s ?_ (by decide) | refine Rj.o1 ?_ (by first | lia | (dsimp only [Nat.beq, gI_sI, gI_sL, gI_sA, gI_sM, gL_sI, gL_sL, gL_sA, gL_sM, aI_sI, aI_sL, aI_sA, aI_sM, aL_sI, aL_sL, aL_sA, aL_sM]; lia)) | refine Rj.o2 ?_ | refine Rj.f1 ?_ (by first | lia | (dsimp only [Nat.beq, gI_sI, gI_sL, gI_sA, gI_sM, gL_sI, gL_sL, gL_sA, gL_sM, aI_sI, aI_sL, aI_sA, aI_sM, aL_sI, aL_sL, aL_sA, aL_sM]; lia)) | refine Rj.f2 ?_ | refine Rj.fs ?_))) (fun q => absurd rfl q))
          · refine hB _ _ _ _ _ _ _ _ (fun m7 hm7 => ?_)
            dsimp only [jgo, jwp, jst, jct, rfd, Bfinished, Nat.beq, lv_args, rlk, rs1, rs2, rdl, rky, rcd, rno, rsw, Value.category, List.filter, List.take, List.drop, List.reverse, List.reverseAux, List.cons_append, List.nil_append, Option.toList, Int.toNat, Int.reduceToNat, if_pos, if_neg, reduceIte, ↓reduceIte, Nat.reduceAdd, Nat.reduceEqDiff, Nat.reduceBEq, beq_self_eq_true, Bool.not_true, Bool.not_false, Bool.and_true, Bool.and_false, Bool.true_and, Bool.false_and, gI_sI, gI_sL, gI_sA, gI_sM, gL_sI, gL_sL, gL_sA, gL_sM, aI_sI, aI_sL, aI_sA, aI_sM, aL_sI, aL_sL, aL_sA, aL_sM, Bfinished_0, Bfinished_7, Bfinished_11, Bfinished_12, Bfinished_13, Bfinished_17, Bfinished_37, Bfinished_43, Bfinished_45, Bfinished_85, Bfinished_94, Bfinished_118, Bfinished_120, Bfinished_137, Bfinished_152, Bfinished_157, Bfinished_179, Bfinished_184, Bfinished_206, Bfinished_211, Bfinished_220, Bfinished_225, Bfinished_232, Bfinished_234, Bfinished_260, Bfinished_269, Bfinished_271, Bfinished_293, Bfinished_299, Bfinished_332, Bfinished_351, Bfinished_374, Bfinished_378, Bfinished_379, Bfinished_383, oi_0, oi_1, oi_2, oi_24, oi_25, oi_28, oi_3, oi_30, oi_31, oi_36, oi_4, oi_42, oi_45, oi_5, oi_59, oi_6, oi_7, oi_8, Pu_cant, Pj_condition, Pu_emit, Pj_enter, Pj_isRow, Pj_isWord, Pu_leave, Pj_take, Pj_want]; try dsimp only
            try simp only [hR3.e2, hR3.e14, hR3.e15, hR3.e17, hR3.e18, hR3.e36, hR3.e42, hR3.e49, hR3.e62, hR3.a3, hR3.a6, hR3.a51, hR3.a19, hR3.a63, hR3.a64, hR3.hp, hR.e18]
            refine hB _ _ _ _ _ _ _ _ (fun m8 hm8 => ?_)
            dsimp only [jgo, jwp, jst, jct, rfd, Bfinished, Nat.beq, lv_args, rlk, rs1, rs2, rdl, rky, rcd, rno, rsw, Value.category, List.filter, List.take, List.drop, List.reverse, List.reverseAux, List.cons_append, List.nil_append, Option.toList, Int.toNat, Int.reduceToNat, if_pos, if_neg, reduceIte, ↓reduceIte, Nat.reduceAdd, Nat.reduceEqDiff, Nat.reduceBEq, beq_self_eq_true, Bool.not_true, Bool.not_false, Bool.and_true, Bool.and_false, Bool.true_and, Bool.false_and, gI_sI, gI_sL, gI_sA, gI_sM, gL_sI, gL_sL, gL_sA, gL_sM, aI_sI, aI_sL, aI_sA, aI_sM, aL_sI, aL_sL, aL_sA, aL_sM, Bfinished_0, Bfinished_7, Bfinished_11, Bfinished_12, Bfinished_13, Bfinished_17, Bfinished_37, Bfinished_43, Bfinished_45, Bfinished_85, Bfinished_94, Bfinished_118, Bfinished_120, Bfinished_137, Bfinished_152, Bfinished_157, Bfinished_179, Bfinished_184, Bfinished_206, Bfinished_211, Bfinished_220, Bfinished_225, Bfinished_232, Bfinished_234, Bfinished_260, Bfinished_269, Bfinished_271, Bfinished_293, Bfinished_299, Bfinished_332, Bfinished_351, Bfinished_374, Bfinished_378, Bfinished_379, Bfinished_383, oi_0, oi_1, oi_2, oi_24, oi_25, oi_28, oi_3, oi_30, oi_31, oi_36, oi_4, oi_42, oi_45, oi_5, oi_59, oi_6, oi_7, oi_8, Pu_cant, Pj_condition, Pu_emit, Pj_enter, Pj_isRow, Pj_isWord, Pu_leave, Pj_take, Pj_want]; try dsimp only
            try simp only [hR3.e2, hR3.e14, hR3.e15, hR3.e17, hR3.e18, hR3.e36, hR3.e42, hR3.e49, hR3.e62, hR3.a3, hR3.a6, hR3.a51, hR3.a19, hR3.a63, hR3.a64, hR3.hp, hR.e18]
            exact hW _ 13 [(0, .ref 1000), (1, .int 1)] [(0, .ref 1000), (1, .int 1)] _ _ _ _ _ _ (by simp [rdl, rky]) (by simp [rdl, rky]) (loop _ (by omega) _ _ 1 (by (repeat (first | exact hR3 | refine Rj.i ?_ rfl | refine Rj.a ?_ rfl | refine Rj.m ?_ | refine Rj.s ?_ (by decide) | refine Rj.o1 ?_ (by first | lia | (dsimp only [Nat.beq, gI_sI, gI_sL, gI_sA, gI_sM, gL_sI, gL_sL, gL_sA, gL_sM, aI_sI, aI_sL, aI_sA, aI_sM, aL_sI, aL_sL, aL_sA, aL_sM]; lia)) | refine Rj.o2 ?_ | refine Rj.f1 ?_ (by first | lia | (dsimp only [Nat.beq, gI_sI, gI_sL, gI_sA, gI_sM, gL_sI, gL_sL, gL_sA, gL_sM, aI_sI, aI_sL, aI_sA, aI_sM, aL_sI, aL_sL, aL_sA, aL_sM]; lia)) | refine Rj.f2 ?_ | refine Rj.fs ?_))) (fun _ => by first | lia | (dsimp only [Nat.beq, gI_sI, gI_sL, gI_sA, gI_sM, gL_sI, gL_sL, gL_sA, gL_sM, aI_sI, aI_sL, aI_sA, aI_sM, aL_sI, aL_sL, aL_sA, aL_sM]; lia)))
        intro X Y more hR hm
        refine hB _ _ _ _ _ _ _ _ (fun m1 hm1 => ?_)
        dsimp only [jgo, jwp, jst, jct, rfd, Bfinished, Nat.beq, lv_args, rlk, rs1, rs2, rdl, rky, rcd, rno, rsw, Value.category, List.filter, List.take, List.drop, List.reverse, List.reverseAux, List.cons_append, List.nil_append, Option.toList, Int.toNat, Int.reduceToNat, if_pos, if_neg, reduceIte, ↓reduceIte, Nat.reduceAdd, Nat.reduceEqDiff, Nat.reduceBEq, beq_self_eq_true, Bool.not_true, Bool.not_false, Bool.and_true, Bool.and_false, Bool.true_and, Bool.false_and, gI_sI, gI_sL, gI_sA, gI_sM, gL_sI, gL_sL, gL_sA, gL_sM, aI_sI, aI_sL, aI_sA, aI_sM, aL_sI, aL_sL, aL_sA, aL_sM, Bfinished_0, Bfinished_7, Bfinished_11, Bfinished_12, Bfinished_13, Bfinished_17, Bfinished_37, Bfinished_43, Bfinished_45, Bfinished_85, Bfinished_94, Bfinished_118, Bfinished_120, Bfinished_137, Bfinished_152, Bfinished_157, Bfinished_179, Bfinished_184, Bfinished_206, Bfinished_211, Bfinished_220, Bfinished_225, Bfinished_232, Bfinished_234, Bfinished_260, Bfinished_269, Bfinished_271, Bfinished_293, Bfinished_299, Bfinished_332, Bfinished_351, Bfinished_374, Bfinished_378, Bfinished_379, Bfinished_383, oi_0, oi_1, oi_2, oi_24, oi_25, oi_28, oi_3, oi_30, oi_31, oi_36, oi_4, oi_42, oi_45, oi_5, oi_59, oi_6, oi_7, oi_8, Pu_cant, Pj_condition, Pu_emit, Pj_enter, Pj_isRow, Pj_isWord, Pu_leave, Pj_take, Pj_want]; try dsimp only
        try simp only [hR.e2, hR.e14, hR.e15, hR.e17, hR.e18, hR.e36, hR.e42, hR.e49, hR.e62, hR.a3, hR.a6, hR.a51, hR.a19, hR.a63, hR.a64, hR.hp]
        refine ⟨fun h2 => ⟨(by exact h2), ?_⟩, fun h2 => ⟨(by exact h2), ?_⟩⟩
        · refine hB _ _ _ _ _ _ _ _ (fun m3 hm3 => ?_)
          dsimp only [jgo, jwp, jst, jct, rfd, Bfinished, Nat.beq, lv_args, rlk, rs1, rs2, rdl, rky, rcd, rno, rsw, Value.category, List.filter, List.take, List.drop, List.reverse, List.reverseAux, List.cons_append, List.nil_append, Option.toList, Int.toNat, Int.reduceToNat, if_pos, if_neg, reduceIte, ↓reduceIte, Nat.reduceAdd, Nat.reduceEqDiff, Nat.reduceBEq, beq_self_eq_true, Bool.not_true, Bool.not_false, Bool.and_true, Bool.and_false, Bool.true_and, Bool.false_and, gI_sI, gI_sL, gI_sA, gI_sM, gL_sI, gL_sL, gL_sA, gL_sM, aI_sI, aI_sL, aI_sA, aI_sM, aL_sI, aL_sL, aL_sA, aL_sM, Bfinished_0, Bfinished_7, Bfinished_11, Bfinished_12, Bfinished_13, Bfinished_17, Bfinished_37, Bfinished_43, Bfinished_45, Bfinished_85, Bfinished_94, Bfinished_118, Bfinished_120, Bfinished_137, Bfinished_152, Bfinished_157, Bfinished_179, Bfinished_184, Bfinished_206, Bfinished_211, Bfinished_220, Bfinished_225, Bfinished_232, Bfinished_234, Bfinished_260, Bfinished_269, Bfinished_271, Bfinished_293, Bfinished_299, Bfinished_332, Bfinished_351, Bfinished_374, Bfinished_378, Bfinished_379, Bfinished_383, oi_0, oi_1, oi_2, oi_24, oi_25, oi_28, oi_3, oi_30, oi_31, oi_36, oi_4, oi_42, oi_45, oi_5, oi_59, oi_6, oi_7, oi_8, Pu_cant, Pj_condition, Pu_emit, Pj_enter, Pj_isRow, Pj_isWord, Pu_leave, Pj_take, Pj_want]; try dsimp only
          try simp only [hR.e2, hR.e14, hR.e15, hR.e17, hR.e18, hR.e36, hR.e42, hR.e49, hR.e62, hR.a3, hR.a6, hR.a51, hR.a19, hR.a63, hR.a64, hR.hp]
          unfold Qj_finished
          try dsimp only
          exact ⟨_, rfl, rfl, Or.inr ⟨rfl, by (repeat (first | exact hR | refine Rj.i ?_ rfl | refine Rj.a ?_ rfl | refine Rj.m ?_ | refine Rj.s ?_ (by decide) | refine Rj.o1 ?_ (by first | lia | (dsimp only [Nat.beq, gI_sI, gI_sL, gI_sA, gI_sM, gL_sI, gL_sL, gL_sA, gL_sM, aI_sI, aI_sL, aI_sA, aI_sM, aL_sI, aL_sL, aL_sA, aL_sM]; lia)) | refine Rj.o2 ?_ | refine Rj.f1 ?_ (by first | lia | (dsimp only [Nat.beq, gI_sI, gI_sL, gI_sA, gI_sM, gL_sI, gL_sL, gL_sA, gL_sM, aI_sI, aI_sL, aI_sA, aI_sM, aL_sI, aL_sL, aL_sA, aL_sM]; lia)) | refine Rj.f2 ?_ | refine Rj.fs ?_))⟩⟩
        · refine hB _ _ _ _ _ _ _ _ (fun m4 hm4 => ?_)
          dsimp only [jgo, jwp, jst, jct, rfd, Bfinished, Nat.beq, lv_args, rlk, rs1, rs2, rdl, rky, rcd, rno, rsw, Value.category, List.filter, List.take, List.drop, List.reverse, List.reverseAux, List.cons_append, List.nil_append, Option.toList, Int.toNat, Int.reduceToNat, if_pos, if_neg, reduceIte, ↓reduceIte, Nat.reduceAdd, Nat.reduceEqDiff, Nat.reduceBEq, beq_self_eq_true, Bool.not_true, Bool.not_false, Bool.and_true, Bool.and_false, Bool.true_and, Bool.false_and, gI_sI, gI_sL, gI_sA, gI_sM, gL_sI, gL_sL, gL_sA, gL_sM, aI_sI, aI_sL, aI_sA, aI_sM, aL_sI, aL_sL, aL_sA, aL_sM, Bfinished_0, Bfinished_7, Bfinished_11, Bfinished_12, Bfinished_13, Bfinished_17, Bfinished_37, Bfinished_43, Bfinished_45, Bfinished_85, Bfinished_94, Bfinished_118, Bfinished_120, Bfinished_137, Bfinished_152, Bfinished_157, Bfinished_179, Bfinished_184, Bfinished_206, Bfinished_211, Bfinished_220, Bfinished_225, Bfinished_232, Bfinished_234, Bfinished_260, Bfinished_269, Bfinished_271, Bfinished_293, Bfinished_299, Bfinished_332, Bfinished_351, Bfinished_374, Bfinished_378, Bfinished_379, Bfinished_383, oi_0, oi_1, oi_2, oi_24, oi_25, oi_28, oi_3, oi_30, oi_31, oi_36, oi_4, oi_42, oi_45, oi_5, oi_59, oi_6, oi_7, oi_8, Pu_cant, Pj_condition, Pu_emit, Pj_enter, Pj_isRow, Pj_isWord, Pu_leave, Pj_take, Pj_want]; try dsimp only
          have hop := hm (by lia)
          have ho := lt_pred hop
          try simp only [hR.e2, hR.e14, hR.e15, hR.e17, hR.e18, hR.e36, hR.e42, hR.e49, hR.e62, hR.a3, hR.a6, hR.a51, hR.a19, hR.a63, hR.a64, hR.hp, ho]
          intro p5 q5
          try simp only [hR.e2, hR.e14, hR.e15, hR.e17, hR.e18, hR.e36, hR.e42, hR.e49, hR.e62, hR.a3, hR.a6, hR.a51, hR.a19, hR.a63, hR.a64, hR.hp, ho]
          refine ⟨(by first | exact True.intro | rfl), fun w6 τ6 w6' τ6' hq6 => ?_⟩
          obtain ⟨b6, rfl, rfl, rfl, rfl, hb6⟩ := hq6
          rcases hb6 with rfl | ⟨rfl, hf6⟩
          · dsimp only [Option.toList, List.cons_append, List.nil_append, Nat.beq, gI_sI, gI_sL, gI_sA, gI_sM, gL_sI, gL_sL, gL_sA, gL_sM, aI_sI, aI_sL, aI_sA, aI_sM, aL_sI, aL_sL, aL_sA, aL_sM]
            try simp only [hR.e2, hR.e14, hR.e15, hR.e17, hR.e18, hR.e36, hR.e42, hR.e49, hR.e62, hR.a3, hR.a6, hR.a51, hR.a19, hR.a63, hR.a64, hR.hp, ho]
            refine ⟨fun h7 => absurd h7 (by decide), fun h7 => ⟨(by exact h7), ?_⟩⟩
            clear h7
            refine hB _ _ _ _ _ _ _ _ (fun m8 hm8 => ?_)
            dsimp only [jgo, jwp, jst, jct, rfd, Bfinished, Nat.beq, lv_args, rlk, rs1, rs2, rdl, rky, rcd, rno, rsw, Value.category, List.filter, List.take, List.drop, List.reverse, List.reverseAux, List.cons_append, List.nil_append, Option.toList, Int.toNat, Int.reduceToNat, if_pos, if_neg, reduceIte, ↓reduceIte, Nat.reduceAdd, Nat.reduceEqDiff, Nat.reduceBEq, beq_self_eq_true, Bool.not_true, Bool.not_false, Bool.and_true, Bool.and_false, Bool.true_and, Bool.false_and, gI_sI, gI_sL, gI_sA, gI_sM, gL_sI, gL_sL, gL_sA, gL_sM, aI_sI, aI_sL, aI_sA, aI_sM, aL_sI, aL_sL, aL_sA, aL_sM, Bfinished_0, Bfinished_7, Bfinished_11, Bfinished_12, Bfinished_13, Bfinished_17, Bfinished_37, Bfinished_43, Bfinished_45, Bfinished_85, Bfinished_94, Bfinished_118, Bfinished_120, Bfinished_137, Bfinished_152, Bfinished_157, Bfinished_179, Bfinished_184, Bfinished_206, Bfinished_211, Bfinished_220, Bfinished_225, Bfinished_232, Bfinished_234, Bfinished_260, Bfinished_269, Bfinished_271, Bfinished_293, Bfinished_299, Bfinished_332, Bfinished_351, Bfinished_374, Bfinished_378, Bfinished_379, Bfinished_383, oi_0, oi_1, oi_2, oi_24, oi_25, oi_28, oi_3, oi_30, oi_31, oi_36, oi_4, oi_42, oi_45, oi_5, oi_59, oi_6, oi_7, oi_8, Pu_cant, Pj_condition, Pu_emit, Pj_enter, Pj_isRow, Pj_isWord, Pu_leave, Pj_take, Pj_want]; try dsimp only
            try simp only [hR.e2, hR.e14, hR.e15, hR.e17, hR.e18, hR.e36, hR.e42, hR.e49, hR.e62, hR.a3, hR.a6, hR.a51, hR.a19, hR.a63, hR.a64, hR.hp, ho]
            refine ⟨fun h9 => ⟨(by exact h9), ?_⟩, fun h9 => ⟨(by exact h9), ?_⟩⟩
            · refine hB _ _ _ _ _ _ _ _ (fun m10 hm10 => ?_)
              dsimp only [jgo, jwp, jst, jct, rfd, Bfinished, Nat.beq, lv_args, rlk, rs1, rs2, rdl, rky, rcd, rno, rsw, Value.category, List.filter, List.take, List.drop, List.reverse, List.reverseAux, List.cons_append, List.nil_append, Option.toList, Int.toNat, Int.reduceToNat, if_pos, if_neg, reduceIte, ↓reduceIte, Nat.reduceAdd, Nat.reduceEqDiff, Nat.reduceBEq, beq_self_eq_true, Bool.not_true, Bool.not_false, Bool.and_true, Bool.and_false, Bool.true_and, Bool.false_and, gI_sI, gI_sL, gI_sA, gI_sM, gL_sI, gL_sL, gL_sA, gL_sM, aI_sI, aI_sL, aI_sA, aI_sM, aL_sI, aL_sL, aL_sA, aL_sM, Bfinished_0, Bfinished_7, Bfinished_11, Bfinished_12, Bfinished_13, Bfinished_17, Bfinished_37, Bfinished_43, Bfinished_45, Bfinished_85, Bfinished_94, Bfinished_118, Bfinished_120, Bfinished_137, Bfinished_152, Bfinished_157, Bfinished_179, Bfinished_184, Bfinished_206, Bfinished_211, Bfinished_220, Bfinished_225, Bfinished_232, Bfinished_234, Bfinished_260, Bfinished_269, Bfinished_271, Bfinished_293, Bfinished_299, Bfinished_332, Bfinished_351, Bfinished_374, Bfinished_378, Bfinished_379, Bfinished_383, oi_0, oi_1, oi_2, oi_24, oi_25, oi_28, oi_3, oi_30, oi_31, oi_36, oi_4, oi_42, oi_45, oi_5, oi_59, oi_6, oi_7, oi_8, Pu_cant, Pj_condition, Pu_emit, Pj_enter, Pj_isRow, Pj_isWord, Pu_leave, Pj_take, Pj_want]; try dsimp only
              try simp only [hR.e2, hR.e14, hR.e15, hR.e17, hR.e18, hR.e36, hR.e42, hR.e49, hR.e62, hR.a3, hR.a6, hR.a51, hR.a19, hR.a63, hR.a64, hR.hp, ho]
              intro p11 q11
              try simp only [hR.e2, hR.e14, hR.e15, hR.e17, hR.e18, hR.e36, hR.e42, hR.e49, hR.e62, hR.a3, hR.a6, hR.a51, hR.a19, hR.a63, hR.a64, hR.hp, ho]
              intro p12 q12
              try simp only [hR.e2, hR.e14, hR.e15, hR.e17, hR.e18, hR.e36, hR.e42, hR.e49, hR.e62, hR.a3, hR.a6, hR.a51, hR.a19, hR.a63, hR.a64, hR.hp, ho]
              refine ⟨fun h13 => ⟨(by exact h13), ?_⟩, fun h13 => ⟨(by exact h13), ?_⟩⟩
              · refine hB _ _ _ _ _ _ _ _ (fun m14 hm14 => ?_)
                dsimp only [jgo, jwp, jst, jct, rfd, Bfinished, Nat.beq, lv_args, rlk, rs1, rs2, rdl, rky, rcd, rno, rsw, Value.category, List.filter, List.take, List.drop, List.reverse, List.reverseAux, List.cons_append, List.nil_append, Option.toList, Int.toNat, Int.reduceToNat, if_pos, if_neg, reduceIte, ↓reduceIte, Nat.reduceAdd, Nat.reduceEqDiff, Nat.reduceBEq, beq_self_eq_true, Bool.not_true, Bool.not_false, Bool.and_true, Bool.and_false, Bool.true_and, Bool.false_and, gI_sI, gI_sL, gI_sA, gI_sM, gL_sI, gL_sL, gL_sA, gL_sM, aI_sI, aI_sL, aI_sA, aI_sM, aL_sI, aL_sL, aL_sA, aL_sM, Bfinished_0, Bfinished_7, Bfinished_11, Bfinished_12, Bfinished_13, Bfinished_17, Bfinished_37, Bfinished_43, Bfinished_45, Bfinished_85, Bfinished_94, Bfinished_118, Bfinished_120, Bfinished_137, Bfinished_152, Bfinished_157, Bfinished_179, Bfinished_184, Bfinished_206, Bfinished_211, Bfinished_220, Bfinished_225, Bfinished_232, Bfinished_234, Bfinished_260, Bfinished_269, Bfinished_271, Bfinished_293, Bfinished_299, Bfinished_332, Bfinished_351, Bfinished_374, Bfinished_378, Bfinished_379, Bfinished_383, oi_0, oi_1, oi_2, oi_24, oi_25, oi_28, oi_3, oi_30, oi_31, oi_36, oi_4, oi_42, oi_45, oi_5, oi_59, oi_6, oi_7, oi_8, Pu_cant, Pj_condition, Pu_emit, Pj_enter, Pj_isRow, Pj_isWord, Pu_leave, Pj_take, Pj_want]; try dsimp only
                try simp only [hR.e2, hR.e14, hR.e15, hR.e17, hR.e18, hR.e36, hR.e42, hR.e49, hR.e62, hR.a3, hR.a6, hR.a51, hR.a19, hR.a63, hR.a64, hR.hp, ho]
                refine ⟨fun h15 => ⟨(by exact h15), ?_⟩, fun h15 => ⟨(by exact h15), ?_⟩⟩
                · refine hB _ _ _ _ _ _ _ _ (fun m16 hm16 => ?_)
                  dsimp only [jgo, jwp, jst, jct, rfd, Bfinished, Nat.beq, lv_args, rlk, rs1, rs2, rdl, rky, rcd, rno, rsw, Value.category, List.filter, List.take, List.drop, List.reverse, List.reverseAux, List.cons_append, List.nil_append, Option.toList, Int.toNat, Int.reduceToNat, if_pos, if_neg, reduceIte, ↓reduceIte, Nat.reduceAdd, Nat.reduceEqDiff, Nat.reduceBEq, beq_self_eq_true, Bool.not_true, Bool.not_false, Bool.and_true, Bool.and_false, Bool.true_and, Bool.false_and, gI_sI, gI_sL, gI_sA, gI_sM, gL_sI, gL_sL, gL_sA, gL_sM, aI_sI, aI_sL, aI_sA, aI_sM, aL_sI, aL_sL, aL_sA, aL_sM, Bfinished_0, Bfinished_7, Bfinished_11, Bfinished_12, Bfinished_13, Bfinished_17, Bfinished_37, Bfinished_43, Bfinished_45, Bfinished_85, Bfinished_94, Bfinished_118, Bfinished_120, Bfinished_137, Bfinished_152, Bfinished_157, Bfinished_179, Bfinished_184, Bfinished_206, Bfinished_211, Bfinished_220, Bfinished_225, Bfinished_232, Bfinished_234, Bfinished_260, Bfinished_269, Bfinished_271, Bfinished_293, Bfinished_299, Bfinished_332, Bfinished_351, Bfinished_374, Bfinished_378, Bfinished_379, Bfinished_383, oi_0, oi_1, oi_2, oi_24, oi_25, oi_28, oi_3, oi_30, oi_31, oi_36, oi_4, oi_42, oi_45, oi_5, oi_59, oi_6, oi_7, oi_8, Pu_cant, Pj_condition, Pu_emit, Pj_enter, Pj_isRow, Pj_isWord, Pu_leave, Pj_take, Pj_want]; try dsimp only
                  try simp only [hR.e2, hR.e14, hR.e15, hR.e17, hR.e18, hR.e36, hR.e42, hR.e49, hR.e62, hR.a3, hR.a6, hR.a51, hR.a19, hR.a63, hR.a64, hR.hp, ho]
                  intro p17 q17
                  try simp only [hR.e2, hR.e14, hR.e15, hR.e17, hR.e18, hR.e36, hR.e42, hR.e49, hR.e62, hR.a3, hR.a6, hR.a51, hR.a19, hR.a63, hR.a64, hR.hp, ho]
                  refine ⟨⟨trivial, trivial⟩, fun w18 τ18 w18' τ18' hq18 => ?_⟩
                  obtain ⟨⟨rfl, hE18⟩, rfl, hF18⟩ := hq18
                  have hR18 : Rj 1 τ18 τ18' := Rj.em (by (repeat (first | exact hR | refine Rj.i ?_ rfl | refine Rj.a ?_ rfl | refine Rj.m ?_ | refine Rj.s ?_ (by decide) | refine Rj.o1 ?_ (by first | lia | (dsimp only [Nat.beq, gI_sI, gI_sL, gI_sA, gI_sM, gL_sI, gL_sL, gL_sA, gL_sM, aI_sI, aI_sL, aI_sA, aI_sM, aL_sI, aL_sL, aL_sA, aL_sM]; lia)) | refine Rj.o2 ?_ | refine Rj.f1 ?_ (by first | lia | (dsimp only [Nat.beq, gI_sI, gI_sL, gI_sA, gI_sM, gL_sI, gL_sL, gL_sA, gL_sM, aI_sI, aI_sL, aI_sA, aI_sM, aL_sI, aL_sL, aL_sA, aL_sM]; lia)) | refine Rj.f2 ?_ | refine Rj.fs ?_))) hE18 hF18 (by first | exact fun _ => rfl | exact fun q => absurd q (by decide))
                  have hp18 := hE18.1 14 (by decide)
                  have ho18 := hE18.1 29 (by decide)
                  have hh18 := hE18.1 62 (by decide)
                  have hg18 := hE18.1 49 (by decide)
                  have hw18 := hE18.1 34 (by decide)
                  have hv18 := hF18.1 34 (by decide)
                  have ht18 := hE18.2.2.2.2.1 3 (by decide)
                  try dsimp only [Nat.beq, gI_sI, gI_sL, gI_sA, gI_sM, gL_sI, gL_sL, gL_sA, gL_sM, aI_sI, aI_sL, aI_sA, aI_sM, aL_sI, aL_sL, aL_sA, aL_sM] at hp18
                  try dsimp only [Nat.beq, gI_sI, gI_sL, gI_sA, gI_sM, gL_sI, gL_sL, gL_sA, gL_sM, aI_sI, aI_sL, aI_sA, aI_sM, aL_sI, aL_sL, aL_sA, aL_sM] at ho18
                  try dsimp only [Nat.beq, gI_sI, gI_sL, gI_sA, gI_sM, gL_sI, gL_sL, gL_sA, gL_sM, aI_sI, aI_sL, aI_sA, aI_sM, aL_sI, aL_sL, aL_sA, aL_sM] at hh18
                  try dsimp only [Nat.beq, gI_sI, gI_sL, gI_sA, gI_sM, gL_sI, gL_sL, gL_sA, gL_sM, aI_sI, aI_sL, aI_sA, aI_sM, aL_sI, aL_sL, aL_sA, aL_sM] at hg18
                  try dsimp only [Nat.beq, gI_sI, gI_sL, gI_sA, gI_sM, gL_sI, gL_sL, gL_sA, gL_sM, aI_sI, aI_sL, aI_sA, aI_sM, aL_sI, aL_sL, aL_sA, aL_sM] at hw18
                  try dsimp only [Nat.beq, gI_sI, gI_sL, gI_sA, gI_sM, gL_sI, gL_sL, gL_sA, gL_sM, aI_sI, aI_sL, aI_sA, aI_sM, aL_sI, aL_sL, aL_sA, aL_sM] at hv18
                  try dsimp only [Nat.beq, gI_sI, gI_sL, gI_sA, gI_sM, gL_sI, gL_sL, gL_sA, gL_sM, aI_sI, aI_sL, aI_sA, aI_sM, aL_sI, aL_sL, aL_sA, aL_sM] at ht18
                  have hz18 := congrFun ht18 (gI τ18 14).toNatClampNeg
                  dsimp only [Option.toList, List.cons_append, List.nil_append, Nat.beq, gI_sI, gI_sL, gI_sA, gI_sM, gL_sI, gL_sL, gL_sA, gL_sM, aI_sI, aI_sL, aI_sA, aI_sM, aL_sI, aL_sL, aL_sA, aL_sM]
                  try simp only [hR18.e2, hR18.e14, hR18.e15, hR18.e17, hR18.e18, hR18.e36, hR18.e42, hR18.e49, hR18.e62, hR18.a3, hR18.a6, hR18.a51, hR18.a19, hR18.a63, hR18.a64, hR18.hp, ho, hR.e18]
                  intro p19 q19
                  try simp only [hR18.e2, hR18.e14, hR18.e15, hR18.e17, hR18.e18, hR18.e36, hR18.e42, hR18.e49, hR18.e62, hR18.a3, hR18.a6, hR18.a51, hR18.a19, hR18.a63, hR18.a64, hR18.hp, ho, hR.e18]
                  exact hW _ 351 [(0, .ref 1000), (4, .int (aI X 65 (gI X 62 - 1).toNatClampNeg))] [(0, .ref 1000), (4, .int (aI Y 65 (gI X 62 - 1).toNatClampNeg))] _ _ _ _ _ _ (by simp [rdl, rky]) (by simp [rdl, rky]) (t351 _ (by omega) _ _ _ _ (by (repeat (first | exact hR18 | refine Rj.i ?_ rfl | refine Rj.a ?_ rfl | refine Rj.m ?_ | refine Rj.s ?_ (by decide) | refine Rj.o1 ?_ (by first | lia | (dsimp only [Nat.beq, gI_sI, gI_sL, gI_sA, gI_sM, gL_sI, gL_sL, gL_sA, gL_sM, aI_sI, aI_sL, aI_sA, aI_sM, aL_sI, aL_sL, aL_sA, aL_sM]; lia)) | refine Rj.o2 ?_ | refine Rj.f1 ?_ (by first | lia | (dsimp only [Nat.beq, gI_sI, gI_sL, gI_sA, gI_sM, gL_sI, gL_sL, gL_sA, gL_sM, aI_sI, aI_sL, aI_sA, aI_sM, aL_sI, aL_sL, aL_sA, aL_sM]; lia)) | refine Rj.f2 ?_ | refine Rj.fs ?_))))
                · refine hB _ _ _ _ _ _ _ _ (fun m20 hm20 => ?_)
                  dsimp only [jgo, jwp, jst, jct, rfd, Bfinished, Nat.beq, lv_args, rlk, rs1, rs2, rdl, rky, rcd, rno, rsw, Value.category, List.filter, List.take, List.drop, List.reverse, List.reverseAux, List.cons_append, List.nil_append, Option.toList, Int.toNat, Int.reduceToNat, if_pos, if_neg, reduceIte, ↓reduceIte, Nat.reduceAdd, Nat.reduceEqDiff, Nat.reduceBEq, beq_self_eq_true, Bool.not_true, Bool.not_false, Bool.and_true, Bool.and_false, Bool.true_and, Bool.false_and, gI_sI, gI_sL, gI_sA, gI_sM, gL_sI, gL_sL, gL_sA, gL_sM, aI_sI, aI_sL, aI_sA, aI_sM, aL_sI, aL_sL, aL_sA, aL_sM, Bfinished_0, Bfinished_7, Bfinished_11, Bfinished_12, Bfinished_13, Bfinished_17, Bfinished_37, Bfinished_43, Bfinished_45, Bfinished_85, Bfinished_94, Bfinished_118, Bfinished_120, Bfinished_137, Bfinished_152, Bfinished_157, Bfinished_179, Bfinished_184, Bfinished_206, Bfinished_211, Bfinished_220, Bfinished_225, Bfinished_232, Bfinished_234, Bfinished_260, Bfinished_269, Bfinished_271, Bfinished_293, Bfinished_299, Bfinished_332, Bfinished_351, Bfinished_374, Bfinished_378, Bfinished_379, Bfinished_383, oi_0, oi_1, oi_2, oi_24, oi_25, oi_28, oi_3, oi_30, oi_31, oi_36, oi_4, oi_42, oi_45, oi_5, oi_59, oi_6, oi_7, oi_8, Pu_cant, Pj_condition, Pu_emit, Pj_enter, Pj_isRow, Pj_isWord, Pu_leave, Pj_take, Pj_want]; try dsimp only
                  try simp only [hR.e2, hR.e14, hR.e15, hR.e17, hR.e18, hR.e36, hR.e42, hR.e49, hR.e62, hR.a3, hR.a6, hR.a51, hR.a19, hR.a63, hR.a64, hR.hp, ho]
                  refine ⟨fun h21 => ⟨(by exact h21), ?_⟩, fun h21 => ⟨(by exact h21), ?_⟩⟩
                  · refine hB _ _ _ _ _ _ _ _ (fun m22 hm22 => ?_)
                    dsimp only [jgo, jwp, jst, jct, rfd, Bfinished, Nat.beq, lv_args, rlk, rs1, rs2, rdl, rky, rcd, rno, rsw, Value.category, List.filter, List.take, List.drop, List.reverse, List.reverseAux, List.cons_append, List.nil_append, Option.toList, Int.toNat, Int.reduceToNat, if_pos, if_neg, reduceIte, ↓reduceIte, Nat.reduceAdd, Nat.reduceEqDiff, Nat.reduceBEq, beq_self_eq_true, Bool.not_true, Bool.not_false, Bool.and_true, Bool.and_false, Bool.true_and, Bool.false_and, gI_sI, gI_sL, gI_sA, gI_sM, gL_sI, gL_sL, gL_sA, gL_sM, aI_sI, aI_sL, aI_sA, aI_sM, aL_sI, aL_sL, aL_sA, aL_sM, Bfinished_0, Bfinished_7, Bfinished_11, Bfinished_12, Bfinished_13, Bfinished_17, Bfinished_37, Bfinished_43, Bfinished_45, Bfinished_85, Bfinished_94, Bfinished_118, Bfinished_120, Bfinished_137, Bfinished_152, Bfinished_157, Bfinished_179, Bfinished_184, Bfinished_206, Bfinished_211, Bfinished_220, Bfinished_225, Bfinished_232, Bfinished_234, Bfinished_260, Bfinished_269, Bfinished_271, Bfinished_293, Bfinished_299, Bfinished_332, Bfinished_351, Bfinished_374, Bfinished_378, Bfinished_379, Bfinished_383, oi_0, oi_1, oi_2, oi_24, oi_25, oi_28, oi_3, oi_30, oi_31, oi_36, oi_4, oi_42, oi_45, oi_5, oi_59, oi_6, oi_7, oi_8, Pu_cant, Pj_condition, Pu_emit, Pj_enter, Pj_isRow, Pj_isWord, Pu_leave, Pj_take, Pj_want]; try dsimp only
                    try simp only [hR.e2, hR.e14, hR.e15, hR.e17, hR.e18, hR.e36, hR.e42, hR.e49, hR.e62, hR.a3, hR.a6, hR.a51, hR.a19, hR.a63, hR.a64, hR.hp, ho]
                    refine ⟨fun h23 => ⟨(by exact h23), ?_⟩, fun h23 => ⟨(by exact h23), ?_⟩⟩
                    · refine hB _ _ _ _ _ _ _ _ (fun m24 hm24 => ?_)
                      dsimp only [jgo, jwp, jst, jct, rfd, Bfinished, Nat.beq, lv_args, rlk, rs1, rs2, rdl, rky, rcd, rno, rsw, Value.category, List.filter, List.take, List.drop, List.reverse, List.reverseAux, List.cons_append, List.nil_append, Option.toList, Int.toNat, Int.reduceToNat, if_pos, if_neg, reduceIte, ↓reduceIte, Nat.reduceAdd, Nat.reduceEqDiff, Nat.reduceBEq, beq_self_eq_true, Bool.not_true, Bool.not_false, Bool.and_true, Bool.and_false, Bool.true_and, Bool.false_and, gI_sI, gI_sL, gI_sA, gI_sM, gL_sI, gL_sL, gL_sA, gL_sM, aI_sI, aI_sL, aI_sA, aI_sM, aL_sI, aL_sL, aL_sA, aL_sM, Bfinished_0, Bfinished_7, Bfinished_11, Bfinished_12, Bfinished_13, Bfinished_17, Bfinished_37, Bfinished_43, Bfinished_45, Bfinished_85, Bfinished_94, Bfinished_118, Bfinished_120, Bfinished_137, Bfinished_152, Bfinished_157, Bfinished_179, Bfinished_184, Bfinished_206, Bfinished_211, Bfinished_220, Bfinished_225, Bfinished_232, Bfinished_234, Bfinished_260, Bfinished_269, Bfinished_271, Bfinished_293, Bfinished_299, Bfinished_332, Bfinished_351, Bfinished_374, Bfinished_378, Bfinished_379, Bfinished_383, oi_0, oi_1, oi_2, oi_24, oi_25, oi_28, oi_3, oi_30, oi_31, oi_36, oi_4, oi_42, oi_45, oi_5, oi_59, oi_6, oi_7, oi_8, Pu_cant, Pj_condition, Pu_emit, Pj_enter, Pj_isRow, Pj_isWord, Pu_leave, Pj_take, Pj_want]; try dsimp only
                      try simp only [hR.e2, hR.e14, hR.e15, hR.e17, hR.e18, hR.e36, hR.e42, hR.e49, hR.e62, hR.a3, hR.a6, hR.a51, hR.a19, hR.a63, hR.a64, hR.hp, ho]
                      refine ⟨fun h25 => ⟨(by exact h25), ?_⟩, fun h25 => ⟨(by exact h25), ?_⟩⟩
                      · refine hB _ _ _ _ _ _ _ _ (fun m26 hm26 => ?_)
                        dsimp only [jgo, jwp, jst, jct, rfd, Bfinished, Nat.beq, lv_args, rlk, rs1, rs2, rdl, rky, rcd, rno, rsw, Value.category, List.filter, List.take, List.drop, List.reverse, List.reverseAux, List.cons_append, List.nil_append, Option.toList, Int.toNat, Int.reduceToNat, if_pos, if_neg, reduceIte, ↓reduceIte, Nat.reduceAdd, Nat.reduceEqDiff, Nat.reduceBEq, beq_self_eq_true, Bool.not_true, Bool.not_false, Bool.and_true, Bool.and_false, Bool.true_and, Bool.false_and, gI_sI, gI_sL, gI_sA, gI_sM, gL_sI, gL_sL, gL_sA, gL_sM, aI_sI, aI_sL, aI_sA, aI_sM, aL_sI, aL_sL, aL_sA, aL_sM, Bfinished_0, Bfinished_7, Bfinished_11, Bfinished_12, Bfinished_13, Bfinished_17, Bfinished_37, Bfinished_43, Bfinished_45, Bfinished_85, Bfinished_94, Bfinished_118, Bfinished_120, Bfinished_137, Bfinished_152, Bfinished_157, Bfinished_179, Bfinished_184, Bfinished_206, Bfinished_211, Bfinished_220, Bfinished_225, Bfinished_232, Bfinished_234, Bfinished_260, Bfinished_269, Bfinished_271, Bfinished_293, Bfinished_299, Bfinished_332, Bfinished_351, Bfinished_374, Bfinished_378, Bfinished_379, Bfinished_383, oi_0, oi_1, oi_2, oi_24, oi_25, oi_28, oi_3, oi_30, oi_31, oi_36, oi_4, oi_42, oi_45, oi_5, oi_59, oi_6, oi_7, oi_8, Pu_cant, Pj_condition, Pu_emit, Pj_enter, Pj_isRow, Pj_isWord, Pu_leave, Pj_take, Pj_want]; try dsimp only
                        try simp only [hR.e2, hR.e14, hR.e15, hR.e17, hR.e18, hR.e36, hR.e42, hR.e49, hR.e62, hR.a3, hR.a6, hR.a51, hR.a19, hR.a63, hR.a64, hR.hp, ho]
                        refine ⟨fun h27 => ⟨(by exact h27), ?_⟩, fun h27 => ⟨(by exact h27), ?_⟩⟩
                        · refine hB _ _ _ _ _ _ _ _ (fun m28 hm28 => ?_)
                          dsimp only [jgo, jwp, jst, jct, rfd, Bfinished, Nat.beq, lv_args, rlk, rs1, rs2, rdl, rky, rcd, rno, rsw, Value.category, List.filter, List.take, List.drop, List.reverse, List.reverseAux, List.cons_append, List.nil_append, Option.toList, Int.toNat, Int.reduceToNat, if_pos, if_neg, reduceIte, ↓reduceIte, Nat.reduceAdd, Nat.reduceEqDiff, Nat.reduceBEq, beq_self_eq_true, Bool.not_true, Bool.not_false, Bool.and_true, Bool.and_false, Bool.true_and, Bool.false_and, gI_sI, gI_sL, gI_sA, gI_sM, gL_sI, gL_sL, gL_sA, gL_sM, aI_sI, aI_sL, aI_sA, aI_sM, aL_sI, aL_sL, aL_sA, aL_sM, Bfinished_0, Bfinished_7, Bfinished_11, Bfinished_12, Bfinished_13, Bfinished_17, Bfinished_37, Bfinished_43, Bfinished_45, Bfinished_85, Bfinished_94, Bfinished_118, Bfinished_120, Bfinished_137, Bfinished_152, Bfinished_157, Bfinished_179, Bfinished_184, Bfinished_206, Bfinished_211, Bfinished_220, Bfinished_225, Bfinished_232, Bfinished_234, Bfinished_260, Bfinished_269, Bfinished_271, Bfinished_293, Bfinished_299, Bfinished_332, Bfinished_351, Bfinished_374, Bfinished_378, Bfinished_379, Bfinished_383, oi_0, oi_1, oi_2, oi_24, oi_25, oi_28, oi_3, oi_30, oi_31, oi_36, oi_4, oi_42, oi_45, oi_5, oi_59, oi_6, oi_7, oi_8, Pu_cant, Pj_condition, Pu_emit, Pj_enter, Pj_isRow, Pj_isWord, Pu_leave, Pj_take, Pj_want]; try dsimp only
                          try simp only [hR.e2, hR.e14, hR.e15, hR.e17, hR.e18, hR.e36, hR.e42, hR.e49, hR.e62, hR.a3, hR.a6, hR.a51, hR.a19, hR.a63, hR.a64, hR.hp, ho]
                          intro p29 q29
                          try simp only [hR.e2, hR.e14, hR.e15, hR.e17, hR.e18, hR.e36, hR.e42, hR.e49, hR.e62, hR.a3, hR.a6, hR.a51, hR.a19, hR.a63, hR.a64, hR.hp, ho]
                          refine ⟨⟨trivial, trivial⟩, fun w30 τ30 w30' τ30' hq30 => ?_⟩
                          obtain ⟨⟨rfl, hE30⟩, rfl, hF30⟩ := hq30
                          have hR30 : Rj 1 τ30 τ30' := Rj.em (by (repeat (first | exact hR | refine Rj.i ?_ rfl | refine Rj.a ?_ rfl | refine Rj.m ?_ | refine Rj.s ?_ (by decide) | refine Rj.o1 ?_ (by first | lia | (dsimp only [Nat.beq, gI_sI, gI_sL, gI_sA, gI_sM, gL_sI, gL_sL, gL_sA, gL_sM, aI_sI, aI_sL, aI_sA, aI_sM, aL_sI, aL_sL, aL_sA, aL_sM]; lia)) | refine Rj.o2 ?_ | refine Rj.f1 ?_ (by first | lia | (dsimp only [Nat.beq, gI_sI, gI_sL, gI_sA, gI_sM, gL_sI, gL_sL, gL_sA, gL_sM, aI_sI, aI_sL, aI_sA, aI_sM, aL_sI, aL_sL, aL_sA, aL_sM]; lia)) | refine Rj.f2 ?_ | refine Rj.fs ?_))) hE30 hF30 (by first | exact fun _ => rfl | exact fun q => absurd q (by decide))
                          have hp30 := hE30.1 14 (by decide)
                          have ho30 := hE30.1 29 (by decide)
                          have hh30 := hE30.1 62 (by decide)
                          have hg30 := hE30.1 49 (by decide)
                          have hw30 := hE30.1 34 (by decide)
                          have hv30 := hF30.1 34 (by decide)
                          have ht30 := hE30.2.2.2.2.1 3 (by decide)
                          try dsimp only [Nat.beq, gI_sI, gI_sL, gI_sA, gI_sM, gL_sI, gL_sL, gL_sA, gL_sM, aI_sI, aI_sL, aI_sA, aI_sM, aL_sI, aL_sL, aL_sA, aL_sM] at hp30
                          try dsimp only [Nat.beq, gI_sI, gI_sL, gI_sA, gI_sM, gL_sI, gL_sL, gL_sA, gL_sM, aI_sI, aI_sL, aI_sA, aI_sM, aL_sI, aL_sL, aL_sA, aL_sM] at ho30
                          try dsimp only [Nat.beq, gI_sI, gI_sL, gI_sA, gI_sM, gL_sI, gL_sL, gL_sA, gL_sM, aI_sI, aI_sL, aI_sA, aI_sM, aL_sI, aL_sL, aL_sA, aL_sM] at hh30
                          try dsimp only [Nat.beq, gI_sI, gI_sL, gI_sA, gI_sM, gL_sI, gL_sL, gL_sA, gL_sM, aI_sI, aI_sL, aI_sA, aI_sM, aL_sI, aL_sL, aL_sA, aL_sM] at hg30
                          try dsimp only [Nat.beq, gI_sI, gI_sL, gI_sA, gI_sM, gL_sI, gL_sL, gL_sA, gL_sM, aI_sI, aI_sL, aI_sA, aI_sM, aL_sI, aL_sL, aL_sA, aL_sM] at hw30
                          try dsimp only [Nat.beq, gI_sI, gI_sL, gI_sA, gI_sM, gL_sI, gL_sL, gL_sA, gL_sM, aI_sI, aI_sL, aI_sA, aI_sM, aL_sI, aL_sL, aL_sA, aL_sM] at hv30
                          try dsimp only [Nat.beq, gI_sI, gI_sL, gI_sA, gI_sM, gL_sI, gL_sL, gL_sA, gL_sM, aI_sI, aI_sL, aI_sA, aI_sM, aL_sI, aL_sL, aL_sA, aL_sM] at ht30
                          have hz30 := congrFun ht30 (gI τ30 14).toNatClampNeg
                          dsimp only [Option.toList, List.cons_append, List.nil_append, Nat.beq, gI_sI, gI_sL, gI_sA, gI_sM, gL_sI, gL_sL, gL_sA, gL_sM, aI_sI, aI_sL, aI_sA, aI_sM, aL_sI, aL_sL, aL_sA, aL_sM]
                          try simp only [hR30.e2, hR30.e14, hR30.e15, hR30.e17, hR30.e18, hR30.e36, hR30.e42, hR30.e49, hR30.e62, hR30.a3, hR30.a6, hR30.a51, hR30.a19, hR30.a63, hR30.a64, hR30.hp, ho, hR.e18]
                          intro p31 q31
                          try simp only [hR30.e2, hR30.e14, hR30.e15, hR30.e17, hR30.e18, hR30.e36, hR30.e42, hR30.e49, hR30.e62, hR30.a3, hR30.a6, hR30.a51, hR30.a19, hR30.a63, hR30.a64, hR30.hp, ho, hR.e18]
                          exact hW _ 351 [(0, .ref 1000), (4, .int (aI X 65 (gI X 62 - 1).toNatClampNeg))] [(0, .ref 1000), (4, .int (aI Y 65 (gI X 62 - 1).toNatClampNeg))] _ _ _ _ _ _ (by simp [rdl, rky]) (by simp [rdl, rky]) (t351 _ (by omega) _ _ _ _ (by (repeat (first | exact hR30 | refine Rj.i ?_ rfl | refine Rj.a ?_ rfl | refine Rj.m ?_ | refine Rj.s ?_ (by decide) | refine Rj.o1 ?_ (by first | lia | (dsimp only [Nat.beq, gI_sI, gI_sL, gI_sA, gI_sM, gL_sI, gL_sL, gL_sA, gL_sM, aI_sI, aI_sL, aI_sA, aI_sM, aL_sI, aL_sL, aL_sA, aL_sM]; lia)) | refine Rj.o2 ?_ | refine Rj.f1 ?_ (by first | lia | (dsimp only [Nat.beq, gI_sI, gI_sL, gI_sA, gI_sM, gL_sI, gL_sL, gL_sA, gL_sM, aI_sI, aI_sL, aI_sA, aI_sM, aL_sI, aL_sL, aL_sA, aL_sM]; lia)) | refine Rj.f2 ?_ | refine Rj.fs ?_))))
                        · refine hB _ _ _ _ _ _ _ _ (fun m32 hm32 => ?_)
                          dsimp only [jgo, jwp, jst, jct, rfd, Bfinished, Nat.beq, lv_args, rlk, rs1, rs2, rdl, rky, rcd, rno, rsw, Value.category, List.filter, List.take, List.drop, List.reverse, List.reverseAux, List.cons_append, List.nil_append, Option.toList, Int.toNat, Int.reduceToNat, if_pos, if_neg, reduceIte, ↓reduceIte, Nat.reduceAdd, Nat.reduceEqDiff, Nat.reduceBEq, beq_self_eq_true, Bool.not_true, Bool.not_false, Bool.and_true, Bool.and_false, Bool.true_and, Bool.false_and, gI_sI, gI_sL, gI_sA, gI_sM, gL_sI, gL_sL, gL_sA, gL_sM, aI_sI, aI_sL, aI_sA, aI_sM, aL_sI, aL_sL, aL_sA, aL_sM, Bfinished_0, Bfinished_7, Bfinished_11, Bfinished_12, Bfinished_13, Bfinished_17, Bfinished_37, Bfinished_43, Bfinished_45, Bfinished_85, Bfinished_94, Bfinished_118, Bfinished_120, Bfinished_137, Bfinished_152, Bfinished_157, Bfinished_179, Bfinished_184, Bfinished_206, Bfinished_211, Bfinished_220, Bfinished_225, Bfinished_232, Bfinished_234, Bfinished_260, Bfinished_269, Bfinished_271, Bfinished_293, Bfinished_299, Bfinished_332, Bfinished_351, Bfinished_374, Bfinished_378, Bfinished_379, Bfinished_383, oi_0, oi_1, oi_2, oi_24, oi_25, oi_28, oi_3, oi_30, oi_31, oi_36, oi_4, oi_42, oi_45, oi_5, oi_59, oi_6, oi_7, oi_8, Pu_cant, Pj_condition, Pu_emit, Pj_enter, Pj_isRow, Pj_isWord, Pu_leave, Pj_take, Pj_want]; try dsimp only
                          try simp only [hR.e2, hR.e14, hR.e15, hR.e17, hR.e18, hR.e36, hR.e42, hR.e49, hR.e62, hR.a3, hR.a6, hR.a51, hR.a19, hR.a63, hR.a64, hR.hp, ho]
                          refine ⟨⟨trivial, trivial⟩, fun w33 τ33 w33' τ33' hq33 => ?_⟩
                          obtain ⟨⟨rfl, f33, rfl⟩, rfl, f33', rfl⟩ := hq33
                          dsimp only [Option.toList, List.cons_append, List.nil_append, Nat.beq, gI_sI, gI_sL, gI_sA, gI_sM, gL_sI, gL_sL, gL_sA, gL_sM, aI_sI, aI_sL, aI_sA, aI_sM, aL_sI, aL_sL, aL_sA, aL_sM]
                          try simp only [hR.e2, hR.e14, hR.e15, hR.e17, hR.e18, hR.e36, hR.e42, hR.e49, hR.e62, hR.a3, hR.a6, hR.a51, hR.a19, hR.a63, hR.a64, hR.hp, ho]
                          intro p34 q34
                          try simp only [hR.e2, hR.e14, hR.e15, hR.e17, hR.e18, hR.e36, hR.e42, hR.e49, hR.e62, hR.a3, hR.a6, hR.a51, hR.a19, hR.a63, hR.a64, hR.hp, ho]
                          refine ⟨⟨trivial, trivial⟩, fun w35 τ35 w35' τ35' hq35 => ?_⟩
                          obtain ⟨⟨rfl, hE35⟩, rfl, hF35⟩ := hq35
                          have hR35 : Rj 1 τ35 τ35' := Rj.em (by (repeat (first | exact hR | refine Rj.i ?_ rfl | refine Rj.a ?_ rfl | refine Rj.m ?_ | refine Rj.s ?_ (by decide) | refine Rj.o1 ?_ (by first | lia | (dsimp only [Nat.beq, gI_sI, gI_sL, gI_sA, gI_sM, gL_sI, gL_sL, gL_sA, gL_sM, aI_sI, aI_sL, aI_sA, aI_sM, aL_sI, aL_sL, aL_sA, aL_sM]; lia)) | refine Rj.o2 ?_ | refine Rj.f1 ?_ (by first | lia | (dsimp only [Nat.beq, gI_sI, gI_sL, gI_sA, gI_sM, gL_sI, gL_sL, gL_sA, gL_sM, aI_sI, aI_sL, aI_sA, aI_sM, aL_sI, aL_sL, aL_sA, aL_sM]; lia)) | refine Rj.f2 ?_ | refine Rj.fs ?_))) hE35 hF35 (by first | exact fun _ => rfl | exact fun q => absurd q (by decide))
                          have hp35 := hE35.1 14 (by decide)
                          have ho35 := hE35.1 29 (by decide)
                          have hh35 := hE35.1 62 (by decide)
                          have hg35 := hE35.1 49 (by decide)
                          have hw35 := hE35.1 34 (by decide)
                          have hv35 := hF35.1 34 (by decide)
                          have ht35 := hE35.2.2.2.2.1 3 (by decide)
                          try dsimp only [Nat.beq, gI_sI, gI_sL, gI_sA, gI_sM, gL_sI, gL_sL, gL_sA, gL_sM, aI_sI, aI_sL, aI_sA, aI_sM, aL_sI, aL_sL, aL_sA, aL_sM] at hp35
                          try dsimp only [Nat.beq, gI_sI, gI_sL, gI_sA, gI_sM, gL_sI, gL_sL, gL_sA, gL_sM, aI_sI, aI_sL, aI_sA, aI_sM, aL_sI, aL_sL, aL_sA, aL_sM] at ho35
                          try dsimp only [Nat.beq, gI_sI, gI_sL, gI_sA, gI_sM, gL_sI, gL_sL, gL_sA, gL_sM, aI_sI, aI_sL, aI_sA, aI_sM, aL_sI, aL_sL, aL_sA, aL_sM] at hh35
                          try dsimp only [Nat.beq, gI_sI, gI_sL, gI_sA, gI_sM, gL_sI, gL_sL, gL_sA, gL_sM, aI_sI, aI_sL, aI_sA, aI_sM, aL_sI, aL_sL, aL_sA, aL_sM] at hg35
                          try dsimp only [Nat.beq, gI_sI, gI_sL, gI_sA, gI_sM, gL_sI, gL_sL, gL_sA, gL_sM, aI_sI, aI_sL, aI_sA, aI_sM, aL_sI, aL_sL, aL_sA, aL_sM] at hw35
                          try dsimp only [Nat.beq, gI_sI, gI_sL, gI_sA, gI_sM, gL_sI, gL_sL, gL_sA, gL_sM, aI_sI, aI_sL, aI_sA, aI_sM, aL_sI, aL_sL, aL_sA, aL_sM] at hv35
                          try dsimp only [Nat.beq, gI_sI, gI_sL, gI_sA, gI_sM, gL_sI, gL_sL, gL_sA, gL_sM, aI_sI, aI_sL, aI_sA, aI_sM, aL_sI, aL_sL, aL_sA, aL_sM] at ht35
                          have hz35 := congrFun ht35 (gI τ35 14).toNatClampNeg
                          dsimp only [Option.toList, List.cons_append, List.nil_append, Nat.beq, gI_sI, gI_sL, gI_sA, gI_sM, gL_sI, gL_sL, gL_sA, gL_sM, aI_sI, aI_sL, aI_sA, aI_sM, aL_sI, aL_sL, aL_sA, aL_sM]
                          try simp only [hR35.e2, hR35.e14, hR35.e15, hR35.e17, hR35.e18, hR35.e36, hR35.e42, hR35.e49, hR35.e62, hR35.a3, hR35.a6, hR35.a51, hR35.a19, hR35.a63, hR35.a64, hR35.hp, ho, hR.e18]
                          intro p36 q36
                          try simp only [hR35.e2, hR35.e14, hR35.e15, hR35.e17, hR35.e18, hR35.e36, hR35.e42, hR35.e49, hR35.e62, hR35.a3, hR35.a6, hR35.a51, hR35.a19, hR35.a63, hR35.a64, hR35.hp, ho, hR.e18]
                          exact hW _ 351 [(0, .ref 1000), (4, .int (aI X 65 (gI X 62 - 1).toNatClampNeg))] [(0, .ref 1000), (4, .int (aI Y 65 (gI X 62 - 1).toNatClampNeg))] _ _ _ _ _ _ (by simp [rdl, rky]) (by simp [rdl, rky]) (t351 _ (by omega) _ _ _ _ (by (repeat (first | exact hR35 | refine Rj.i ?_ rfl | refine Rj.a ?_ rfl | refine Rj.m ?_ | refine Rj.s ?_ (by decide) | refine Rj.o1 ?_ (by first | lia | (dsimp only [Nat.beq, gI_sI, gI_sL, gI_sA, gI_sM, gL_sI, gL_sL, gL_sA, gL_sM, aI_sI, aI_sL, aI_sA, aI_sM, aL_sI, aL_sL, aL_sA, aL_sM]; lia)) | refine Rj.o2 ?_ | refine Rj.f1 ?_ (by first | lia | (dsimp only [Nat.beq, gI_sI, gI_sL, gI_sA, gI_sM, gL_sI, gL_sL, gL_sA, gL_sM, aI_sI, aI_sL, aI_sA, aI_sM, aL_sI, aL_sL, aL_sA, aL_sM]; lia)) | refine Rj.f2 ?_ | refine Rj.fs ?_))))
                      · refine hB _ _ _ _ _ _ _ _ (fun m37 hm37 => ?_)
                        dsimp only [jgo, jwp, jst, jct, rfd, Bfinished, Nat.beq, lv_args, rlk, rs1, rs2, rdl, rky, rcd, rno, rsw, Value.category, List.filter, List.take, List.drop, List.reverse, List.reverseAux, List.cons_append, List.nil_append, Option.toList, Int.toNat, Int.reduceToNat, if_pos, if_neg, reduceIte, ↓reduceIte, Nat.reduceAdd, Nat.reduceEqDiff, Nat.reduceBEq, beq_self_eq_true, Bool.not_true, Bool.not_false, Bool.and_true, Bool.and_false, Bool.true_and, Bool.false_and, gI_sI, gI_sL, gI_sA, gI_sM, gL_sI, gL_sL, gL_sA, gL_sM, aI_sI, aI_sL, aI_sA, aI_sM, aL_sI, aL_sL, aL_sA, aL_sM, Bfinished_0, Bfinished_7, Bfinished_11, Bfinished_12, Bfinished_13, Bfinished_17, Bfinished_37, Bfinished_43, Bfinished_45, Bfinished_85, Bfinished_94, Bfinished_118, Bfinished_120, Bfinished_137, Bfinished_152, Bfinished_157, Bfinished_179, Bfinished_184, Bfinished_206, Bfinished_211, Bfinished_220, Bfinished_225, Bfinished_232, Bfinished_234, Bfinished_260, Bfinished_269, Bfinished_271, Bfinished_293, Bfinished_299, Bfinished_332, Bfinished_351, Bfinished_374, Bfinished_378, Bfinished_379, Bfinished_383, oi_0, oi_1, oi_2, oi_24, oi_25, oi_28, oi_3, oi_30, oi_31, oi_36, oi_4, oi_42, oi_45, oi_5, oi_59, oi_6, oi_7, oi_8, Pu_cant, Pj_condition, Pu_emit, Pj_enter, Pj_isRow, Pj_isWord, Pu_leave, Pj_take, Pj_want]; try dsimp only
                        try simp only [hR.e2, hR.e14, hR.e15, hR.e17, hR.e18, hR.e36, hR.e42, hR.e49, hR.e62, hR.a3, hR.a6, hR.a51, hR.a19, hR.a63, hR.a64, hR.hp, ho]
                        refine ⟨⟨(Rj.w (md := 1) (by (repeat (first | exact hR | refine Rj.i ?_ rfl | refine Rj.a ?_ rfl | refine Rj.m ?_ | refine Rj.s ?_ (by decide) | refine Rj.o1 ?_ (by first | lia | (dsimp only [Nat.beq, gI_sI, gI_sL, gI_sA, gI_sM, gL_sI, gL_sL, gL_sA, gL_sM, aI_sI, aI_sL, aI_sA, aI_sM, aL_sI, aL_sL, aL_sA, aL_sM]; lia)) | refine Rj.o2 ?_ | refine Rj.f1 ?_ (by first | lia | (dsimp only [Nat.beq, gI_sI, gI_sL, gI_sA, gI_sM, gL_sI, gL_sL, gL_sA, gL_sM, aI_sI, aI_sL, aI_sA, aI_sM, aL_sI, aL_sL, aL_sA, aL_sM]; lia)) | refine Rj.f2 ?_ | refine Rj.fs ?_)))), (by first | exact True.intro | rfl)⟩, fun w38 τ38 w38' τ38' hq38 => ?_⟩
                        obtain ⟨b38, rfl, rfl, rfl, rfl, hb38⟩ := hq38
                        rcases hb38 with rfl | ⟨rfl, hf38⟩
                        · dsimp only [Option.toList, List.cons_append, List.nil_append, Nat.beq, gI_sI, gI_sL, gI_sA, gI_sM, gL_sI, gL_sL, gL_sA, gL_sM, aI_sI, aI_sL, aI_sA, aI_sM, aL_sI, aL_sL, aL_sA, aL_sM]
                          try simp only [hR.e2, hR.e14, hR.e15, hR.e17, hR.e18, hR.e36, hR.e42, hR.e49, hR.e62, hR.a3, hR.a6, hR.a51, hR.a19, hR.a63, hR.a64, hR.hp, ho]
                          refine ⟨fun h39 => absurd h39 (by decide), fun h39 => ⟨(by exact h39), ?_⟩⟩
                          clear h39
                          refine hB _ _ _ _ _ _ _ _ (fun m40 hm40 => ?_)
                          dsimp only [jgo, jwp, jst, jct, rfd, Bfinished, Nat.beq, lv_args, rlk, rs1, rs2, rdl, rky, rcd, rno, rsw, Value.category, List.filter, List.take, List.drop, List.reverse, List.reverseAux, List.cons_append, List.nil_append, Option.toList, Int.toNat, Int.reduceToNat, if_pos, if_neg, reduceIte, ↓reduceIte, Nat.reduceAdd, Nat.reduceEqDiff, Nat.reduceBEq, beq_self_eq_true, Bool.not_true, Bool.not_false, Bool.and_true, Bool.and_false, Bool.true_and, Bool.false_and, gI_sI, gI_sL, gI_sA, gI_sM, gL_sI, gL_sL, gL_sA, gL_sM, aI_sI, aI_sL, aI_sA, aI_sM, aL_sI, aL_sL, aL_sA, aL_sM, Bfinished_0, Bfinished_7, Bfinished_11, Bfinished_12, Bfinished_13, Bfinished_17, Bfinished_37, Bfinished_43, Bfinished_45, Bfinished_85, Bfinished_94, Bfinished_118, Bfinished_120, Bfinished_137, Bfinished_152, Bfinished_157, Bfinished_179, Bfinished_184, Bfinished_206, Bfinished_211, Bfinished_220, Bfinished_225, Bfinished_232, Bfinished_234, Bfinished_260, Bfinished_269, Bfinished_271, Bfinished_293, Bfinished_299, Bfinished_332, Bfinished_351, Bfinished_374, Bfinished_378, Bfinished_379, Bfinished_383, oi_0, oi_1, oi_2, oi_24, oi_25, oi_28, oi_3, oi_30, oi_31, oi_36, oi_4, oi_42, oi_45, oi_5, oi_59, oi_6, oi_7, oi_8, Pu_cant, Pj_condition, Pu_emit, Pj_enter, Pj_isRow, Pj_isWord, Pu_leave, Pj_take, Pj_want]; try dsimp only
                          try simp only [hR.e2, hR.e14, hR.e15, hR.e17, hR.e18, hR.e36, hR.e42, hR.e49, hR.e62, hR.a3, hR.a6, hR.a51, hR.a19, hR.a63, hR.a64, hR.hp, ho]
                          refine ⟨⟨trivial, trivial⟩, fun w41 τ41 w41' τ41' hq41 => ?_⟩
                          obtain ⟨rfl, rfl⟩ := hq41
                          dsimp only [Option.toList, List.cons_append, List.nil_append, Nat.beq, gI_sI, gI_sL, gI_sA, gI_sM, gL_sI, gL_sL, gL_sA, gL_sM, aI_sI, aI_sL, aI_sA, aI_sM, aL_sI, aL_sL, aL_sA, aL_sM]
                          try simp only [hR.e2, hR.e14, hR.e15, hR.e17, hR.e18, hR.e36, hR.e42, hR.e49, hR.e62, hR.a3, hR.a6, hR.a51, hR.a19, hR.a63, hR.a64, hR.hp, ho]
                          unfold Qj_finished
                          try dsimp only
                          exact ⟨_, rfl, rfl, Or.inl rfl⟩
                        · dsimp only [Option.toList, List.cons_append, List.nil_append, Nat.beq, gI_sI, gI_sL, gI_sA, gI_sM, gL_sI, gL_sL, gL_sA, gL_sM, aI_sI, aI_sL, aI_sA, aI_sM, aL_sI, aL_sL, aL_sA, aL_sM]
                          try dsimp only [Nat.beq, gI_sI, gI_sL, gI_sA, gI_sM, gL_sI, gL_sL, gL_sA, gL_sM, aI_sI, aI_sL, aI_sA, aI_sM, aL_sI, aL_sL, aL_sA, aL_sM] at hf38
                          try simp only [hR.e2, hR.e14, hR.e15, hR.e17, hR.e18, hR.e36, hR.e42, hR.e49, hR.e62, hR.a3, hR.a6, hR.a51, hR.a19, hR.a63, hR.a64, hR.hp, ho]
                          refine ⟨fun h42 => ⟨(by exact h42), ?_⟩, fun h42 => absurd h42 (by decide)⟩
                          clear h42
                          refine hB _ _ _ _ _ _ _ _ (fun m43 hm43 => ?_)
                          dsimp only [jgo, jwp, jst, jct, rfd, Bfinished, Nat.beq, lv_args, rlk, rs1, rs2, rdl, rky, rcd, rno, rsw, Value.category, List.filter, List.take, List.drop, List.reverse, List.reverseAux, List.cons_append, List.nil_append, Option.toList, Int.toNat, Int.reduceToNat, if_pos, if_neg, reduceIte, ↓reduceIte, Nat.reduceAdd, Nat.reduceEqDiff, Nat.reduceBEq, beq_self_eq_true, Bool.not_true, Bool.not_false, Bool.and_true, Bool.and_false, Bool.true_and, Bool.false_and, gI_sI, gI_sL, gI_sA, gI_sM, gL_sI, gL_sL, gL_sA, gL_sM, aI_sI, aI_sL, aI_sA, aI_sM, aL_sI, aL_sL, aL_sA, aL_sM, Bfinished_0, Bfinished_7, Bfinished_11, Bfinished_12, Bfinished_13, Bfinished_17, Bfinished_37, Bfinished_43, Bfinished_45, Bfinished_85, Bfinished_94, Bfinished_118, Bfinished_120, Bfinished_137, Bfinished_152, Bfinished_157, Bfinished_179, Bfinished_184, Bfinished_206, Bfinished_211, Bfinished_220, Bfinished_225, Bfinished_232, Bfinished_234, Bfinished_260, Bfinished_269, Bfinished_271, Bfinished_293, Bfinished_299, Bfinished_332, Bfinished_351, Bfinished_374, Bfinished_378, Bfinished_379, Bfinished_383, oi_0, oi_1, oi_2, oi_24, oi_25, oi_28, oi_3, oi_30, oi_31, oi_36, oi_4, oi_42, oi_45, oi_5, oi_59, oi_6, oi_7, oi_8, Pu_cant, Pj_condition, Pu_emit, Pj_enter, Pj_isRow, Pj_isWord, Pu_leave, Pj_take, Pj_want]; try dsimp only
                          try simp only [hR.e2, hR.e14, hR.e15, hR.e17, hR.e18, hR.e36, hR.e42, hR.e49, hR.e62, hR.a3, hR.a6, hR.a51, hR.a19, hR.a63, hR.a64, hR.hp, ho]
                          refine ⟨⟨(Rj.w (md := 1) (by (repeat (first | exact hR | refine Rj.i ?_ rfl | refine Rj.a ?_ rfl | refine Rj.m ?_ | refine Rj.s ?_ (by decide) | refine Rj.o1 ?_ (by first | lia | (dsimp only [Nat.beq, gI_sI, gI_sL, gI_sA, gI_sM, gL_sI, gL_sL, gL_sA, gL_sM, aI_sI, aI_sL, aI_sA, aI_sM, aL_sI, aL_sL, aL_sA, aL_sM]; lia)) | refine Rj.o2 ?_ | refine Rj.f1 ?_ (by first | lia | (dsimp only [Nat.beq, gI_sI, gI_sL, gI_sA, gI_sM, gL_sI, gL_sL, gL_sA, gL_sM, aI_sI, aI_sL, aI_sA, aI_sM, aL_sI, aL_sL, aL_sA, aL_sM]; lia)) | refine Rj.f2 ?_ | refine Rj.fs ?_)))), by lia, by lia⟩, fun w44 τ44 w44' τ44' hq44 => ?_⟩
                          obtain ⟨b44, rfl, rfl, hb44⟩ := hq44
                          rcases hb44 with rfl | ⟨rfl, hr44, hk44, hx44⟩
                          · dsimp only [Option.toList, List.cons_append, List.nil_append, Nat.beq, gI_sI, gI_sL, gI_sA, gI_sM, gL_sI, gL_sL, gL_sA, gL_sM, aI_sI, aI_sL, aI_sA, aI_sM, aL_sI, aL_sL, aL_sA, aL_sM]
                            try simp only [hR.e2, hR.e14, hR.e15, hR.e17, hR.e18, hR.e36, hR.e42, hR.e49, hR.e62, hR.a3, hR.a6, hR.a51, hR.a19, hR.a63, hR.a64, hR.hp, ho]
                            refine ⟨fun h45 => absurd h45 (by decide), fun h45 => ⟨(by exact h45), ?_⟩⟩
                            clear h45
                            refine hB _ _ _ _ _ _ _ _ (fun m46 hm46 => ?_)
                            dsimp only [jgo, jwp, jst, jct, rfd, Bfinished, Nat.beq, lv_args, rlk, rs1, rs2, rdl, rky, rcd, rno, rsw, Value.category, List.filter, List.take, List.drop, List.reverse, List.reverseAux, List.cons_append, List.nil_append, Option.toList, Int.toNat, Int.reduceToNat, if_pos, if_neg, reduceIte, ↓reduceIte, Nat.reduceAdd, Nat.reduceEqDiff, Nat.reduceBEq, beq_self_eq_true, Bool.not_true, Bool.not_false, Bool.and_true, Bool.and_false, Bool.true_and, Bool.false_and, gI_sI, gI_sL, gI_sA, gI_sM, gL_sI, gL_sL, gL_sA, gL_sM, aI_sI, aI_sL, aI_sA, aI_sM, aL_sI, aL_sL, aL_sA, aL_sM, Bfinished_0, Bfinished_7, Bfinished_11, Bfinished_12, Bfinished_13, Bfinished_17, Bfinished_37, Bfinished_43, Bfinished_45, Bfinished_85, Bfinished_94, Bfinished_118, Bfinished_120, Bfinished_137, Bfinished_152, Bfinished_157, Bfinished_179, Bfinished_184, Bfinished_206, Bfinished_211, Bfinished_220, Bfinished_225, Bfinished_232, Bfinished_234, Bfinished_260, Bfinished_269, Bfinished_271, Bfinished_293, Bfinished_299, Bfinished_332, Bfinished_351, Bfinished_374, Bfinished_378, Bfinished_379, Bfinished_383, oi_0, oi_1, oi_2, oi_24, oi_25, oi_28, oi_3, oi_30, oi_31, oi_36, oi_4, oi_42, oi_45, oi_5, oi_59, oi_6, oi_7, oi_8, Pu_cant, Pj_condition, Pu_emit, Pj_enter, Pj_isRow, Pj_isWord, Pu_leave, Pj_take, Pj_want]; try dsimp only
                            try simp only [hR.e2, hR.e14, hR.e15, hR.e17, hR.e18, hR.e36, hR.e42, hR.e49, hR.e62, hR.a3, hR.a6, hR.a51, hR.a19, hR.a63, hR.a64, hR.hp, ho]
                            unfold Qj_finished
                            try dsimp only
                            exact ⟨_, rfl, rfl, Or.inl rfl⟩
                          · dsimp only [Option.toList, List.cons_append, List.nil_append, Nat.beq, gI_sI, gI_sL, gI_sA, gI_sM, gL_sI, gL_sL, gL_sA, gL_sM, aI_sI, aI_sL, aI_sA, aI_sM, aL_sI, aL_sL, aL_sA, aL_sM]
                            have hR44 : Rj 1 τ44 τ44' := hr44 _ (by (repeat (first | exact hR | refine Rj.i ?_ rfl | refine Rj.a ?_ rfl | refine Rj.m ?_ | refine Rj.s ?_ (by decide) | refine Rj.o1 ?_ (by first | lia | (dsimp only [Nat.beq, gI_sI, gI_sL, gI_sA, gI_sM, gL_sI, gL_sL, gL_sA, gL_sM, aI_sI, aI_sL, aI_sA, aI_sM, aL_sI, aL_sL, aL_sA, aL_sM]; lia)) | refine Rj.o2 ?_ | refine Rj.f1 ?_ (by first | lia | (dsimp only [Nat.beq, gI_sI, gI_sL, gI_sA, gI_sM, gL_sI, gL_sL, gL_sA, gL_sM, aI_sI, aI_sL, aI_sA, aI_sM, aL_sI, aL_sL, aL_sA, aL_sM]; lia)) | refine Rj.f2 ?_ | refine Rj.fs ?_)))
                            have ht44 := hk44.2 3 rfl
                            have hc44 := hk44.1 2 rfl
                            try dsimp only [Nat.beq, gI_sI, gI_sL, gI_sA, gI_sM, gL_sI, gL_sL, gL_sA, gL_sM, aI_sI, aI_sL, aI_sA, aI_sM, aL_sI, aL_sL, aL_sA, aL_sM] at hx44
                            try dsimp only [Nat.beq, gI_sI, gI_sL, gI_sA, gI_sM, gL_sI, gL_sL, gL_sA, gL_sM, aI_sI, aI_sL, aI_sA, aI_sM, aL_sI, aL_sL, aL_sA, aL_sM] at ht44
                            try dsimp only [Nat.beq, gI_sI, gI_sL, gI_sA, gI_sM, gL_sI, gL_sL, gL_sA, gL_sM, aI_sI, aI_sL, aI_sA, aI_sM, aL_sI, aL_sL, aL_sA, aL_sM] at hc44
                            have hh44 := hk44.1 62 rfl
                            have hg44 := hk44.1 49 rfl
                            try dsimp only [Nat.beq, gI_sI, gI_sL, gI_sA, gI_sM, gL_sI, gL_sL, gL_sA, gL_sM, aI_sI, aI_sL, aI_sA, aI_sM, aL_sI, aL_sL, aL_sA, aL_sM] at hh44
                            try dsimp only [Nat.beq, gI_sI, gI_sL, gI_sA, gI_sM, gL_sI, gL_sL, gL_sA, gL_sM, aI_sI, aI_sL, aI_sA, aI_sM, aL_sI, aL_sL, aL_sA, aL_sM] at hg44
                            have hz44 := congrFun ht44 (gI τ44 14).toNatClampNeg
                            try simp only [hR44.e2, hR44.e14, hR44.e15, hR44.e17, hR44.e18, hR44.e36, hR44.e42, hR44.e49, hR44.e62, hR44.a3, hR44.a6, hR44.a51, hR44.a19, hR44.a63, hR44.a64, hR44.hp, ho]
                            refine ⟨fun h47 => ⟨(by exact h47), ?_⟩, fun h47 => absurd h47 (by decide)⟩
                            clear h47
                            refine hB _ _ _ _ _ _ _ _ (fun m48 hm48 => ?_)
                            dsimp only [jgo, jwp, jst, jct, rfd, Bfinished, Nat.beq, lv_args, rlk, rs1, rs2, rdl, rky, rcd, rno, rsw, Value.category, List.filter, List.take, List.drop, List.reverse, List.reverseAux, List.cons_append, List.nil_append, Option.toList, Int.toNat, Int.reduceToNat, if_pos, if_neg, reduceIte, ↓reduceIte, Nat.reduceAdd, Nat.reduceEqDiff, Nat.reduceBEq, beq_self_eq_true, Bool.not_true, Bool.not_false, Bool.and_true, Bool.and_false, Bool.true_and, Bool.false_and, gI_sI, gI_sL, gI_sA, gI_sM, gL_sI, gL_sL, gL_sA, gL_sM, aI_sI, aI_sL, aI_sA, aI_sM, aL_sI, aL_sL, aL_sA, aL_sM, Bfinished_0, Bfinished_7, Bfinished_11, Bfinished_12, Bfinished_13, Bfinished_17, Bfinished_37, Bfinished_43, Bfinished_45, Bfinished_85, Bfinished_94, Bfinished_118, Bfinished_120, Bfinished_137, Bfinished_152, Bfinished_157, Bfinished_179, Bfinished_184, Bfinished_206, Bfinished_211, Bfinished_220, Bfinished_225, Bfinished_232, Bfinished_234, Bfinished_260, Bfinished_269, Bfinished_271, Bfinished_293, Bfinished_299, Bfinished_332, Bfinished_351, Bfinished_374, Bfinished_378, Bfinished_379, Bfinished_383, oi_0, oi_1, oi_2, oi_24, oi_25, oi_28, oi_3, oi_30, oi_31, oi_36, oi_4, oi_42, oi_45, oi_5, oi_59, oi_6, oi_7, oi_8, Pu_cant, Pj_condition, Pu_emit, Pj_enter, Pj_isRow, Pj_isWord, Pu_leave, Pj_take, Pj_want]; try dsimp only
                            try simp only [hR44.e2, hR44.e14, hR44.e15, hR44.e17, hR44.e18, hR44.e36, hR44.e42, hR44.e49, hR44.e62, hR44.a3, hR44.a6, hR44.a51, hR44.a19, hR44.a63, hR44.a64, hR44.hp, ho]
                            intro p49 q49
                            try simp only [hR44.e2, hR44.e14, hR44.e15, hR44.e17, hR44.e18, hR44.e36, hR44.e42, hR44.e49, hR44.e62, hR44.a3, hR44.a6, hR44.a51, hR44.a19, hR44.a63, hR44.a64, hR44.hp, ho]
                            refine ⟨⟨trivial, trivial⟩, fun w50 τ50 w50' τ50' hq50 => ?_⟩
                            obtain ⟨⟨rfl, hE50⟩, rfl, hF50⟩ := hq50
                            have hR50 : Rj 1 τ50 τ50' := Rj.em (by (repeat (first | exact hR44 | refine Rj.i ?_ rfl | refine Rj.a ?_ rfl | refine Rj.m ?_ | refine Rj.s ?_ (by decide) | refine Rj.o1 ?_ (by first | lia | (dsimp only [Nat.beq, gI_sI, gI_sL, gI_sA, gI_sM, gL_sI, gL_sL, gL_sA, gL_sM, aI_sI, aI_sL, aI_sA, aI_sM, aL_sI, aL_sL, aL_sA, aL_sM]; lia)) | refine Rj.o2 ?_ | refine Rj.f1 ?_ (by first | lia | (dsimp only [Nat.beq, gI_sI, gI_sL, gI_sA, gI_sM, gL_sI, gL_sL, gL_sA, gL_sM, aI_sI, aI_sL, aI_sA, aI_sM, aL_sI, aL_sL, aL_sA, aL_sM]; lia)) | refine Rj.f2 ?_ | refine Rj.fs ?_))) hE50 hF50 (by first | exact fun _ => rfl | exact fun q => absurd q (by decide))
                            have hp50 := hE50.1 14 (by decide)
                            have ho50 := hE50.1 29 (by decide)
                            have hh50 := hE50.1 62 (by decide)
                            have hg50 := hE50.1 49 (by decide)
                            have hw50 := hE50.1 34 (by decide)
                            have hv50 := hF50.1 34 (by decide)
                            have ht50 := hE50.2.2.2.2.1 3 (by decide)
                            try dsimp only [Nat.beq, gI_sI, gI_sL, gI_sA, gI_sM, gL_sI, gL_sL, gL_sA, gL_sM, aI_sI, aI_sL, aI_sA, aI_sM, aL_sI, aL_sL, aL_sA, aL_sM] at hp50
                            try dsimp only [Nat.beq, gI_sI, gI_sL, gI_sA, gI_sM, gL_sI, gL_sL, gL_sA, gL_sM, aI_sI, aI_sL, aI_sA, aI_sM, aL_sI, aL_sL, aL_sA, aL_sM] at ho50
                            try dsimp only [Nat.beq, gI_sI, gI_sL, gI_sA, gI_sM, gL_sI, gL_sL, gL_sA, gL_sM, aI_sI, aI_sL, aI_sA, aI_sM, aL_sI, aL_sL, aL_sA, aL_sM] at hh50
                            try dsimp only [Nat.beq, gI_sI, gI_sL, gI_sA, gI_sM, gL_sI, gL_sL, gL_sA, gL_sM, aI_sI, aI_sL, aI_sA, aI_sM, aL_sI, aL_sL, aL_sA, aL_sM] at hg50
                            try dsimp only [Nat.beq, gI_sI, gI_sL, gI_sA, gI_sM, gL_sI, gL_sL, gL_sA, gL_sM, aI_sI, aI_sL, aI_sA, aI_sM, aL_sI, aL_sL, aL_sA, aL_sM] at hw50
                            try dsimp only [Nat.beq, gI_sI, gI_sL, gI_sA, gI_sM, gL_sI, gL_sL, gL_sA, gL_sM, aI_sI, aI_sL, aI_sA, aI_sM, aL_sI, aL_sL, aL_sA, aL_sM] at hv50
                            try dsimp only [Nat.beq, gI_sI, gI_sL, gI_sA, gI_sM, gL_sI, gL_sL, gL_sA, gL_sM, aI_sI, aI_sL, aI_sA, aI_sM, aL_sI, aL_sL, aL_sA, aL_sM] at ht50
                            have hz50 := congrFun ht50 (gI τ50 14).toNatClampNeg
                            dsimp only [Option.toList, List.cons_append, List.nil_append, Nat.beq, gI_sI, gI_sL, gI_sA, gI_sM, gL_sI, gL_sL, gL_sA, gL_sM, aI_sI, aI_sL, aI_sA, aI_sM, aL_sI, aL_sL, aL_sA, aL_sM]
                            try simp only [hR50.e2, hR50.e14, hR50.e15, hR50.e17, hR50.e18, hR50.e36, hR50.e42, hR50.e49, hR50.e62, hR50.a3, hR50.a6, hR50.a51, hR50.a19, hR50.a63, hR50.a64, hR50.hp, ho, hR44.e18]
                            intro p51 q51
                            try simp only [hR50.e2, hR50.e14, hR50.e15, hR50.e17, hR50.e18, hR50.e36, hR50.e42, hR50.e49, hR50.e62, hR50.a3, hR50.a6, hR50.a51, hR50.a19, hR50.a63, hR50.a64, hR50.hp, ho, hR44.e18]
                            refine ⟨(by (repeat (first | exact hR50 | refine Rj.i ?_ rfl | refine Rj.a ?_ rfl | refine Rj.m ?_ | refine Rj.s ?_ (by decide) | refine Rj.o1 ?_ (by first | lia | (dsimp only [Nat.beq, gI_sI, gI_sL, gI_sA, gI_sM, gL_sI, gL_sL, gL_sA, gL_sM, aI_sI, aI_sL, aI_sA, aI_sM, aL_sI, aL_sL, aL_sA, aL_sM]; lia)) | refine Rj.o2 ?_ | refine Rj.f1 ?_ (by first | lia | (dsimp only [Nat.beq, gI_sI, gI_sL, gI_sA, gI_sM, gL_sI, gL_sL, gL_sA, gL_sM, aI_sI, aI_sL, aI_sA, aI_sM, aL_sI, aL_sL, aL_sA, aL_sM]; lia)) | refine Rj.f2 ?_ | refine Rj.fs ?_))), fun w52 τ52 w52' τ52' hq52 => ?_⟩
                            obtain ⟨b52, rfl, rfl, hb52⟩ := hq52
                            rcases hb52 with rfl | ⟨rfl, hR52, hk52⟩
                            · dsimp only [Option.toList, List.cons_append, List.nil_append, Nat.beq, gI_sI, gI_sL, gI_sA, gI_sM, gL_sI, gL_sL, gL_sA, gL_sM, aI_sI, aI_sL, aI_sA, aI_sM, aL_sI, aL_sL, aL_sA, aL_sM]
                              try simp only [hR50.e2, hR50.e14, hR50.e15, hR50.e17, hR50.e18, hR50.e36, hR50.e42, hR50.e49, hR50.e62, hR50.a3, hR50.a6, hR50.a51, hR50.a19, hR50.a63, hR50.a64, hR50.hp, ho, hR44.e18]
                              refine ⟨fun h53 => ⟨(by exact h53), ?_⟩, fun h53 => absurd h53 (by decide)⟩
                              clear h53
                              refine hB _ _ _ _ _ _ _ _ (fun m54 hm54 => ?_)
                              dsimp only [jgo, jwp, jst, jct, rfd, Bfinished, Nat.beq, lv_args, rlk, rs1, rs2, rdl, rky, rcd, rno, rsw, Value.category, List.filter, List.take, List.drop, List.reverse, List.reverseAux, List.cons_append, List.nil_append, Option.toList, Int.toNat, Int.reduceToNat, if_pos, if_neg, reduceIte, ↓reduceIte, Nat.reduceAdd, Nat.reduceEqDiff, Nat.reduceBEq, beq_self_eq_true, Bool.not_true, Bool.not_false, Bool.and_true, Bool.and_false, Bool.true_and, Bool.false_and, gI_sI, gI_sL, gI_sA, gI_sM, gL_sI, gL_sL, gL_sA, gL_sM, aI_sI, aI_sL, aI_sA, aI_sM, aL_sI, aL_sL, aL_sA, aL_sM, Bfinished_0, Bfinished_7, Bfinished_11, Bfinished_12, Bfinished_13, Bfinished_17, Bfinished_37, Bfinished_43, Bfinished_45, Bfinished_85, Bfinished_94, Bfinished_118, Bfinished_120, Bfinished_137, Bfinished_152, Bfinished_157, Bfinished_179, Bfinished_184, Bfinished_206, Bfinished_211, Bfinished_220, Bfinished_225, Bfinished_232, Bfinished_234, Bfinished_260, Bfinished_269, Bfinished_271, Bfinished_293, Bfinished_299, Bfinished_332, Bfinished_351, Bfinished_374, Bfinished_378, Bfinished_379, Bfinished_383, oi_0, oi_1, oi_2, oi_24, oi_25, oi_28, oi_3, oi_30, oi_31, oi_36, oi_4, oi_42, oi_45, oi_5, oi_59, oi_6, oi_7, oi_8, Pu_cant, Pj_condition, Pu_emit, Pj_enter, Pj_isRow, Pj_isWord, Pu_leave, Pj_take, Pj_want]; try dsimp only
                              try simp only [hR50.e2, hR50.e14, hR50.e15, hR50.e17, hR50.e18, hR50.e36, hR50.e42, hR50.e49, hR50.e62, hR50.a3, hR50.a6, hR50.a51, hR50.a19, hR50.a63, hR50.a64, hR50.hp, ho, hR44.e18]
                              unfold Qj_finished
                              try dsimp only
                              exact ⟨_, rfl, rfl, Or.inl rfl⟩
                            · dsimp only [Option.toList, List.cons_append, List.nil_append, Nat.beq, gI_sI, gI_sL, gI_sA, gI_sM, gL_sI, gL_sL, gL_sA, gL_sM, aI_sI, aI_sL, aI_sA, aI_sM, aL_sI, aL_sL, aL_sA, aL_sM]
                              have hh52 := hk52.1 62 rfl
                              have hg52 := hk52.1 49 rfl
                              try dsimp only [Nat.beq, gI_sI, gI_sL, gI_sA, gI_sM, gL_sI, gL_sL, gL_sA, gL_sM, aI_sI, aI_sL, aI_sA, aI_sM, aL_sI, aL_sL, aL_sA, aL_sM] at hh52
                              try dsimp only [Nat.beq, gI_sI, gI_sL, gI_sA, gI_sM, gL_sI, gL_sL, gL_sA, gL_sM, aI_sI, aI_sL, aI_sA, aI_sM, aL_sI, aL_sL, aL_sA, aL_sM] at hg52
                              try simp only [hR52.e2, hR52.e14, hR52.e15, hR52.e17, hR52.e18, hR52.e36, hR52.e42, hR52.e49, hR52.e62, hR52.a3, hR52.a6, hR52.a51, hR52.a19, hR52.a63, hR52.a64, hR52.hp, ho, hR44.e18]
                              refine ⟨fun h55 => absurd h55 (by decide), fun h55 => ⟨(by exact h55), ?_⟩⟩
                              clear h55
                              refine hB _ _ _ _ _ _ _ _ (fun m56 hm56 => ?_)
                              dsimp only [jgo, jwp, jst, jct, rfd, Bfinished, Nat.beq, lv_args, rlk, rs1, rs2, rdl, rky, rcd, rno, rsw, Value.category, List.filter, List.take, List.drop, List.reverse, List.reverseAux, List.cons_append, List.nil_append, Option.toList, Int.toNat, Int.reduceToNat, if_pos, if_neg, reduceIte, ↓reduceIte, Nat.reduceAdd, Nat.reduceEqDiff, Nat.reduceBEq, beq_self_eq_true, Bool.not_true, Bool.not_false, Bool.and_true, Bool.and_false, Bool.true_and, Bool.false_and, gI_sI, gI_sL, gI_sA, gI_sM, gL_sI, gL_sL, gL_sA, gL_sM, aI_sI, aI_sL, aI_sA, aI_sM, aL_sI, aL_sL, aL_sA, aL_sM, Bfinished_0, Bfinished_7, Bfinished_11, Bfinished_12, Bfinished_13, Bfinished_17, Bfinished_37, Bfinished_43, Bfinished_45, Bfinished_85, Bfinished_94, Bfinished_118, Bfinished_120, Bfinished_137, Bfinished_152, Bfinished_157, Bfinished_179, Bfinished_184, Bfinished_206, Bfinished_211, Bfinished_220, Bfinished_225, Bfinished_232, Bfinished_234, Bfinished_260, Bfinished_269, Bfinished_271, Bfinished_293, Bfinished_299, Bfinished_332, Bfinished_351, Bfinished_374, Bfinished_378, Bfinished_379, Bfinished_383, oi_0, oi_1, oi_2, oi_24, oi_25, oi_28, oi_3, oi_30, oi_31, oi_36, oi_4, oi_42, oi_45, oi_5, oi_59, oi_6, oi_7, oi_8, Pu_cant, Pj_condition, Pu_emit, Pj_enter, Pj_isRow, Pj_isWord, Pu_leave, Pj_take, Pj_want]; try dsimp only
                              try simp only [hR52.e2, hR52.e14, hR52.e15, hR52.e17, hR52.e18, hR52.e36, hR52.e42, hR52.e49, hR52.e62, hR52.a3, hR52.a6, hR52.a51, hR52.a19, hR52.a63, hR52.a64, hR52.hp, ho, hR44.e18]
                              refine ⟨⟨(Rj.w (md := 1) (by (repeat (first | exact hR52 | refine Rj.i ?_ rfl | refine Rj.a ?_ rfl | refine Rj.m ?_ | refine Rj.s ?_ (by decide) | refine Rj.o1 ?_ (by first | lia | (dsimp only [Nat.beq, gI_sI, gI_sL, gI_sA, gI_sM, gL_sI, gL_sL, gL_sA, gL_sM, aI_sI, aI_sL, aI_sA, aI_sM, aL_sI, aL_sL, aL_sA, aL_sM]; lia)) | refine Rj.o2 ?_ | refine Rj.f1 ?_ (by first | lia | (dsimp only [Nat.beq, gI_sI, gI_sL, gI_sA, gI_sM, gL_sI, gL_sL, gL_sA, gL_sM, aI_sI, aI_sL, aI_sA, aI_sM, aL_sI, aL_sL, aL_sA, aL_sM]; lia)) | refine Rj.f2 ?_ | refine Rj.fs ?_)))), (by first | exact True.intro | rfl)⟩, fun w57 τ57 w57' τ57' hq57 => ?_⟩
                              obtain ⟨b57, rfl, rfl, hb57⟩ := hq57
                              rcases hb57 with rfl | ⟨rfl, hr57, hk57, hx57⟩
                              · dsimp only [Option.toList, List.cons_append, List.nil_append, Nat.beq, gI_sI, gI_sL, gI_sA, gI_sM, gL_sI, gL_sL, gL_sA, gL_sM, aI_sI, aI_sL, aI_sA, aI_sM, aL_sI, aL_sL, aL_sA, aL_sM]
                                try simp only [hR52.e2, hR52.e14, hR52.e15, hR52.e17, hR52.e18, hR52.e36, hR52.e42, hR52.e49, hR52.e62, hR52.a3, hR52.a6, hR52.a51, hR52.a19, hR52.a63, hR52.a64, hR52.hp, ho, hR44.e18]
                                refine ⟨fun h58 => absurd h58 (by decide), fun h58 => ⟨(by exact h58), ?_⟩⟩
                                clear h58
                                refine hB _ _ _ _ _ _ _ _ (fun m59 hm59 => ?_)
                                dsimp only [jgo, jwp, jst, jct, rfd, Bfinished, Nat.beq, lv_args, rlk, rs1, rs2, rdl, rky, rcd, rno, rsw, Value.category, List.filter, List.take, List.drop, List.reverse, List.reverseAux, List.cons_append, List.nil_append, Option.toList, Int.toNat, Int.reduceToNat, if_pos, if_neg, reduceIte, ↓reduceIte, Nat.reduceAdd, Nat.reduceEqDiff, Nat.reduceBEq, beq_self_eq_true, Bool.not_true, Bool.not_false, Bool.and_true, Bool.and_false, Bool.true_and, Bool.false_and, gI_sI, gI_sL, gI_sA, gI_sM, gL_sI, gL_sL, gL_sA, gL_sM, aI_sI, aI_sL, aI_sA, aI_sM, aL_sI, aL_sL, aL_sA, aL_sM, Bfinished_0, Bfinished_7, Bfinished_11, Bfinished_12, Bfinished_13, Bfinished_17, Bfinished_37, Bfinished_43, Bfinished_45, Bfinished_85, Bfinished_94, Bfinished_118, Bfinished_120, Bfinished_137, Bfinished_152, Bfinished_157, Bfinished_179, Bfinished_184, Bfinished_206, Bfinished_211, Bfinished_220, Bfinished_225, Bfinished_232, Bfinished_234, Bfinished_260, Bfinished_269, Bfinished_271, Bfinished_293, Bfinished_299, Bfinished_332, Bfinished_351, Bfinished_374, Bfinished_378, Bfinished_379, Bfinished_383, oi_0, oi_1, oi_2, oi_24, oi_25, oi_28, oi_3, oi_30, oi_31, oi_36, oi_4, oi_42, oi_45, oi_5, oi_59, oi_6, oi_7, oi_8, Pu_cant, Pj_condition, Pu_emit, Pj_enter, Pj_isRow, Pj_isWord, Pu_leave, Pj_take, Pj_want]; try dsimp only
                                try simp only [hR52.e2, hR52.e14, hR52.e15, hR52.e17, hR52.e18, hR52.e36, hR52.e42, hR52.e49, hR52.e62, hR52.a3, hR52.a6, hR52.a51, hR52.a19, hR52.a63, hR52.a64, hR52.hp, ho, hR44.e18]
                                unfold Qj_finished
                                try dsimp only
                                exact ⟨_, rfl, rfl, Or.inl rfl⟩
                              · dsimp only [Option.toList, List.cons_append, List.nil_append, Nat.beq, gI_sI, gI_sL, gI_sA, gI_sM, gL_sI, gL_sL, gL_sA, gL_sM, aI_sI, aI_sL, aI_sA, aI_sM, aL_sI, aL_sL, aL_sA, aL_sM]
                                have hR57 : Rj 1 τ57 τ57' := hr57 _ (by (repeat (first | exact hR52 | refine Rj.i ?_ rfl | refine Rj.a ?_ rfl | refine Rj.m ?_ | refine Rj.s ?_ (by decide) | refine Rj.o1 ?_ (by first | lia | (dsimp only [Nat.beq, gI_sI, gI_sL, gI_sA, gI_sM, gL_sI, gL_sL, gL_sA, gL_sM, aI_sI, aI_sL, aI_sA, aI_sM, aL_sI, aL_sL, aL_sA, aL_sM]; lia)) | refine Rj.o2 ?_ | refine Rj.f1 ?_ (by first | lia | (dsimp only [Nat.beq, gI_sI, gI_sL, gI_sA, gI_sM, gL_sI, gL_sL, gL_sA, gL_sM, aI_sI, aI_sL, aI_sA, aI_sM, aL_sI, aL_sL, aL_sA, aL_sM]; lia)) | refine Rj.f2 ?_ | refine Rj.fs ?_)))
                                have ht57 := hk57.2 3 rfl
                                have hc57 := hk57.1 2 rfl
                                try dsimp only [Nat.beq, gI_sI, gI_sL, gI_sA, gI_sM, gL_sI, gL_sL, gL_sA, gL_sM, aI_sI, aI_sL, aI_sA, aI_sM, aL_sI, aL_sL, aL_sA, aL_sM] at hx57
                                try dsimp only [Nat.beq, gI_sI, gI_sL, gI_sA, gI_sM, gL_sI, gL_sL, gL_sA, gL_sM, aI_sI, aI_sL, aI_sA, aI_sM, aL_sI, aL_sL, aL_sA, aL_sM] at ht57
                                try dsimp only [Nat.beq, gI_sI, gI_sL, gI_sA, gI_sM, gL_sI, gL_sL, gL_sA, gL_sM, aI_sI, aI_sL, aI_sA, aI_sM, aL_sI, aL_sL, aL_sA, aL_sM] at hc57
                                have hh57 := hk57.1 62 rfl
                                have hg57 := hk57.1 49 rfl
                                try dsimp only [Nat.beq, gI_sI, gI_sL, gI_sA, gI_sM, gL_sI, gL_sL, gL_sA, gL_sM, aI_sI, aI_sL, aI_sA, aI_sM, aL_sI, aL_sL, aL_sA, aL_sM] at hh57
                                try dsimp only [Nat.beq, gI_sI, gI_sL, gI_sA, gI_sM, gL_sI, gL_sL, gL_sA, gL_sM, aI_sI, aI_sL, aI_sA, aI_sM, aL_sI, aL_sL, aL_sA, aL_sM] at hg57
                                have hz57 := congrFun ht57 (gI τ57 14).toNatClampNeg
                                try simp only [hR57.e2, hR57.e14, hR57.e15, hR57.e17, hR57.e18, hR57.e36, hR57.e42, hR57.e49, hR57.e62, hR57.a3, hR57.a6, hR57.a51, hR57.a19, hR57.a63, hR57.a64, hR57.hp, ho, hR44.e18]
                                refine ⟨fun h60 => ⟨(by exact h60), ?_⟩, fun h60 => absurd h60 (by decide)⟩
                                clear h60
                                refine hB _ _ _ _ _ _ _ _ (fun m61 hm61 => ?_)
                                dsimp only [jgo, jwp, jst, jct, rfd, Bfinished, Nat.beq, lv_args, rlk, rs1, rs2, rdl, rky, rcd, rno, rsw, Value.category, List.filter, List.take, List.drop, List.reverse, List.reverseAux, List.cons_append, List.nil_append, Option.toList, Int.toNat, Int.reduceToNat, if_pos, if_neg, reduceIte, ↓reduceIte, Nat.reduceAdd, Nat.reduceEqDiff, Nat.reduceBEq, beq_self_eq_true, Bool.not_true, Bool.not_false, Bool.and_true, Bool.and_false, Bool.true_and, Bool.false_and, gI_sI, gI_sL, gI_sA, gI_sM, gL_sI, gL_sL, gL_sA, gL_sM, aI_sI, aI_sL, aI_sA, aI_sM, aL_sI, aL_sL, aL_sA, aL_sM, Bfinished_0, Bfinished_7, Bfinished_11, Bfinished_12, Bfinished_13, Bfinished_17, Bfinished_37, Bfinished_43, Bfinished_45, Bfinished_85, Bfinished_94, Bfinished_118, Bfinished_120, Bfinished_137, Bfinished_152, Bfinished_157, Bfinished_179, Bfinished_184, Bfinished_206, Bfinished_211, Bfinished_220, Bfinished_225, Bfinished_232, Bfinished_234, Bfinished_260, Bfinished_269, Bfinished_271, Bfinished_293, Bfinished_299, Bfinished_332, Bfinished_351, Bfinished_374, Bfinished_378, Bfinished_379, Bfinished_383, oi_0, oi_1, oi_2, oi_24, oi_25, oi_28, oi_3, oi_30, oi_31, oi_36, oi_4, oi_42, oi_45, oi_5, oi_59, oi_6, oi_7, oi_8, Pu_cant, Pj_condition, Pu_emit, Pj_enter, Pj_isRow, Pj_isWord, Pu_leave, Pj_take, Pj_want]; try dsimp only
                                try simp only [hR57.e2, hR57.e14, hR57.e15, hR57.e17, hR57.e18, hR57.e36, hR57.e42, hR57.e49, hR57.e62, hR57.a3, hR57.a6, hR57.a51, hR57.a19, hR57.a63, hR57.a64, hR57.hp, ho, hR44.e18]
                                intro p62 q62
                                try simp only [hR57.e2, hR57.e14, hR57.e15, hR57.e17, hR57.e18, hR57.e36, hR57.e42, hR57.e49, hR57.e62, hR57.a3, hR57.a6, hR57.a51, hR57.a19, hR57.a63, hR57.a64, hR57.hp, ho, hR44.e18]
                                refine ⟨⟨trivial, trivial⟩, fun w63 τ63 w63' τ63' hq63 => ?_⟩
                                obtain ⟨⟨rfl, hE63⟩, rfl, hF63⟩ := hq63
                                have hR63 : Rj 1 τ63 τ63' := Rj.em (by (repeat (first | exact hR57 | refine Rj.i ?_ rfl | refine Rj.a ?_ rfl | refine Rj.m ?_ | refine Rj.s ?_ (by decide) | refine Rj.o1 ?_ (by first | lia | (dsimp only [Nat.beq, gI_sI, gI_sL, gI_sA, gI_sM, gL_sI, gL_sL, gL_sA, gL_sM, aI_sI, aI_sL, aI_sA, aI_sM, aL_sI, aL_sL, aL_sA, aL_sM]; lia)) | refine Rj.o2 ?_ | refine Rj.f1 ?_ (by first | lia | (dsimp only [Nat.beq, gI_sI, gI_sL, gI_sA, gI_sM, gL_sI, gL_sL, gL_sA, gL_sM, aI_sI, aI_sL, aI_sA, aI_sM, aL_sI, aL_sL, aL_sA, aL_sM]; lia)) | refine Rj.f2 ?_ | refine Rj.fs ?_))) hE63 hF63 (by first | exact fun _ => rfl | exact fun q => absurd q (by decide))
                                have hp63 := hE63.1 14 (by decide)
                                have ho63 := hE63.1 29 (by decide)
                                have hh63 := hE63.1 62 (by decide)
                                have hg63 := hE63.1 49 (by decide)
                                have hw63 := hE63.1 34 (by decide)
                                have hv63 := hF63.1 34 (by decide)
                                have ht63 := hE63.2.2.2.2.1 3 (by decide)
                                try dsimp only [Nat.beq, gI_sI, gI_sL, gI_sA, gI_sM, gL_sI, gL_sL, gL_sA, gL_sM, aI_sI, aI_sL, aI_sA, aI_sM, aL_sI, aL_sL, aL_sA, aL_sM] at hp63
                                try dsimp only [Nat.beq, gI_sI, gI_sL, gI_sA, gI_sM, gL_sI, gL_sL, gL_sA, gL_sM, aI_sI, aI_sL, aI_sA, aI_sM, aL_sI, aL_sL, aL_sA, aL_sM] at ho63
                                try dsimp only [Nat.beq, gI_sI, gI_sL, gI_sA, gI_sM, gL_sI, gL_sL, gL_sA, gL_sM, aI_sI, aI_sL, aI_sA, aI_sM, aL_sI, aL_sL, aL_sA, aL_sM] at hh63
                                try dsimp only [Nat.beq, gI_sI, gI_sL, gI_sA, gI_sM, gL_sI, gL_sL, gL_sA, gL_sM, aI_sI, aI_sL, aI_sA, aI_sM, aL_sI, aL_sL, aL_sA, aL_sM] at hg63
                                try dsimp only [Nat.beq, gI_sI, gI_sL, gI_sA, gI_sM, gL_sI, gL_sL, gL_sA, gL_sM, aI_sI, aI_sL, aI_sA, aI_sM, aL_sI, aL_sL, aL_sA, aL_sM] at hw63
                                try dsimp only [Nat.beq, gI_sI, gI_sL, gI_sA, gI_sM, gL_sI, gL_sL, gL_sA, gL_sM, aI_sI, aI_sL, aI_sA, aI_sM, aL_sI, aL_sL, aL_sA, aL_sM] at hv63
                                try dsimp only [Nat.beq, gI_sI, gI_sL, gI_sA, gI_sM, gL_sI, gL_sL, gL_sA, gL_sM, aI_sI, aI_sL, aI_sA, aI_sM, aL_sI, aL_sL, aL_sA, aL_sM] at ht63
                                have hz63 := congrFun ht63 (gI τ63 14).toNatClampNeg
                                dsimp only [Option.toList, List.cons_append, List.nil_append, Nat.beq, gI_sI, gI_sL, gI_sA, gI_sM, gL_sI, gL_sL, gL_sA, gL_sM, aI_sI, aI_sL, aI_sA, aI_sM, aL_sI, aL_sL, aL_sA, aL_sM]
                                try simp only [hR63.e2, hR63.e14, hR63.e15, hR63.e17, hR63.e18, hR63.e36, hR63.e42, hR63.e49, hR63.e62, hR63.a3, hR63.a6, hR63.a51, hR63.a19, hR63.a63, hR63.a64, hR63.hp, ho, hR44.e18, hR57.e18]
                                intro p64 q64
                                try simp only [hR63.e2, hR63.e14, hR63.e15, hR63.e17, hR63.e18, hR63.e36, hR63.e42, hR63.e49, hR63.e62, hR63.a3, hR63.a6, hR63.a51, hR63.a19, hR63.a63, hR63.a64, hR63.hp, ho, hR44.e18, hR57.e18]
                                exact hW _ 351 [(0, .ref 1000), (4, .int (aI X 65 (gI X 62 - 1).toNatClampNeg))] [(0, .ref 1000), (4, .int (aI Y 65 (gI X 62 - 1).toNatClampNeg))] _ _ _ _ _ _ (by simp [rdl, rky]) (by simp [rdl, rky]) (t351 _ (by omega) _ _ _ _ (by (repeat (first | exact hR63 | refine Rj.i ?_ rfl | refine Rj.a ?_ rfl | refine Rj.m ?_ | refine Rj.s ?_ (by decide) | refine Rj.o1 ?_ (by first | lia | (dsimp only [Nat.beq, gI_sI, gI_sL, gI_sA, gI_sM, gL_sI, gL_sL, gL_sA, gL_sM, aI_sI, aI_sL, aI_sA, aI_sM, aL_sI, aL_sL, aL_sA, aL_sM]; lia)) | refine Rj.o2 ?_ | refine Rj.f1 ?_ (by first | lia | (dsimp only [Nat.beq, gI_sI, gI_sL, gI_sA, gI_sM, gL_sI, gL_sL, gL_sA, gL_sM, aI_sI, aI_sL, aI_sA, aI_sM, aL_sI, aL_sL, aL_sA, aL_sM]; lia)) | refine Rj.f2 ?_ | refine Rj.fs ?_))))
                    · refine hB _ _ _ _ _ _ _ _ (fun m65 hm65 => ?_)
                      dsimp only [jgo, jwp, jst, jct, rfd, Bfinished, Nat.beq, lv_args, rlk, rs1, rs2, rdl, rky, rcd, rno, rsw, Value.category, List.filter, List.take, List.drop, List.reverse, List.reverseAux, List.cons_append, List.nil_append, Option.toList, Int.toNat, Int.reduceToNat, if_pos, if_neg, reduceIte, ↓reduceIte, Nat.reduceAdd, Nat.reduceEqDiff, Nat.reduceBEq, beq_self_eq_true, Bool.not_true, Bool.not_false, Bool.and_true, Bool.and_false, Bool.true_and, Bool.false_and, gI_sI, gI_sL, gI_sA, gI_sM, gL_sI, gL_sL, gL_sA, gL_sM, aI_sI, aI_sL, aI_sA, aI_sM, aL_sI, aL_sL, aL_sA, aL_sM, Bfinished_0, Bfinished_7, Bfinished_11, Bfinished_12, Bfinished_13, Bfinished_17, Bfinished_37, Bfinished_43, Bfinished_45, Bfinished_85, Bfinished_94, Bfinished_118, Bfinished_120, Bfinished_137, Bfinished_152, Bfinished_157, Bfinished_179, Bfinished_184, Bfinished_206, Bfinished_211, Bfinished_220, Bfinished_225, Bfinished_232, Bfinished_234, Bfinished_260, Bfinished_269, Bfinished_271, Bfinished_293, Bfinished_299, Bfinished_332, Bfinished_351, Bfinished_374, Bfinished_378, Bfinished_379, Bfinished_383, oi_0, oi_1, oi_2, oi_24, oi_25, oi_28, oi_3, oi_30, oi_31, oi_36, oi_4, oi_42, oi_45, oi_5, oi_59, oi_6, oi_7, oi_8, Pu_cant, Pj_condition, Pu_emit, Pj_enter, Pj_isRow, Pj_isWord, Pu_leave, Pj_take, Pj_want]; try dsimp only
                      try simp only [hR.e2, hR.e14, hR.e15, hR.e17, hR.e18, hR.e36, hR.e42, hR.e49, hR.e62, hR.a3, hR.a6, hR.a51, hR.a19, hR.a63, hR.a64, hR.hp, ho]
                      intro p66 q66
                      try simp only [hR.e2, hR.e14, hR.e15, hR.e17, hR.e18, hR.e36, hR.e42, hR.e49, hR.e62, hR.a3, hR.a6, hR.a51, hR.a19, hR.a63, hR.a64, hR.hp, ho]
                      refine ⟨⟨trivial, trivial⟩, fun w67 τ67 w67' τ67' hq67 => ?_⟩
                      obtain ⟨⟨rfl, hE67⟩, rfl, hF67⟩ := hq67
                      have hR67 : Rj 1 τ67 τ67' := Rj.em (by (repeat (first | exact hR | refine Rj.i ?_ rfl | refine Rj.a ?_ rfl | refine Rj.m ?_ | refine Rj.s ?_ (by decide) | refine Rj.o1 ?_ (by first | lia | (dsimp only [Nat.beq, gI_sI, gI_sL, gI_sA, gI_sM, gL_sI, gL_sL, gL_sA, gL_sM, aI_sI, aI_sL, aI_sA, aI_sM, aL_sI, aL_sL, aL_sA, aL_sM]; lia)) | refine Rj.o2 ?_ | refine Rj.f1 ?_ (by first | lia | (dsimp only [Nat.beq, gI_sI, gI_sL, gI_sA, gI_sM, gL_sI, gL_sL, gL_sA, gL_sM, aI_sI, aI_sL, aI_sA, aI_sM, aL_sI, aL_sL, aL_sA, aL_sM]; lia)) | refine Rj.f2 ?_ | refine Rj.fs ?_))) hE67 hF67 (by first | exact fun _ => rfl | exact fun q => absurd q (by decide))
                      have hp67 := hE67.1 14 (by decide)
                      have ho67 := hE67.1 29 (by decide)
                      have hh67 := hE67.1 62 (by decide)
                      have hg67 := hE67.1 49 (by decide)
                      have hw67 := hE67.1 34 (by decide)
                      have hv67 := hF67.1 34 (by decide)
                      have ht67 := hE67.2.2.2.2.1 3 (by decide)
                      try dsimp only [Nat.beq, gI_sI, gI_sL, gI_sA, gI_sM, gL_sI, gL_sL, gL_sA, gL_sM, aI_sI, aI_sL, aI_sA, aI_sM, aL_sI, aL_sL, aL_sA, aL_sM] at hp67
                      try dsimp only [Nat.beq, gI_sI, gI_sL, gI_sA, gI_sM, gL_sI, gL_sL, gL_sA, gL_sM, aI_sI, aI_sL, aI_sA, aI_sM, aL_sI, aL_sL, aL_sA, aL_sM] at ho67
                      try dsimp only [Nat.beq, gI_sI, gI_sL, gI_sA, gI_sM, gL_sI, gL_sL, gL_sA, gL_sM, aI_sI, aI_sL, aI_sA, aI_sM, aL_sI, aL_sL, aL_sA, aL_sM] at hh67
                      try dsimp only [Nat.beq, gI_sI, gI_sL, gI_sA, gI_sM, gL_sI, gL_sL, gL_sA, gL_sM, aI_sI, aI_sL, aI_sA, aI_sM, aL_sI, aL_sL, aL_sA, aL_sM] at hg67
                      try dsimp only [Nat.beq, gI_sI, gI_sL, gI_sA, gI_sM, gL_sI, gL_sL, gL_sA, gL_sM, aI_sI, aI_sL, aI_sA, aI_sM, aL_sI, aL_sL, aL_sA, aL_sM] at hw67
                      try dsimp only [Nat.beq, gI_sI, gI_sL, gI_sA, gI_sM, gL_sI, gL_sL, gL_sA, gL_sM, aI_sI, aI_sL, aI_sA, aI_sM, aL_sI, aL_sL, aL_sA, aL_sM] at hv67
                      try dsimp only [Nat.beq, gI_sI, gI_sL, gI_sA, gI_sM, gL_sI, gL_sL, gL_sA, gL_sM, aI_sI, aI_sL, aI_sA, aI_sM, aL_sI, aL_sL, aL_sA, aL_sM] at ht67
                      have hz67 := congrFun ht67 (gI τ67 14).toNatClampNeg
                      dsimp only [Option.toList, List.cons_append, List.nil_append, Nat.beq, gI_sI, gI_sL, gI_sA, gI_sM, gL_sI, gL_sL, gL_sA, gL_sM, aI_sI, aI_sL, aI_sA, aI_sM, aL_sI, aL_sL, aL_sA, aL_sM]
                      try simp only [hR67.e2, hR67.e14, hR67.e15, hR67.e17, hR67.e18, hR67.e36, hR67.e42, hR67.e49, hR67.e62, hR67.a3, hR67.a6, hR67.a51, hR67.a19, hR67.a63, hR67.a64, hR67.hp, ho, hR.e18]
                      intro p68 q68
                      try simp only [hR67.e2, hR67.e14, hR67.e15, hR67.e17, hR67.e18, hR67.e36, hR67.e42, hR67.e49, hR67.e62, hR67.a3, hR67.a6, hR67.a51, hR67.a19, hR67.a63, hR67.a64, hR67.hp, ho, hR.e18]
                      exact hW _ 351 [(0, .ref 1000), (4, .int (aI X 65 (gI X 62 - 1).toNatClampNeg))] [(0, .ref 1000), (4, .int (aI Y 65 (gI X 62 - 1).toNatClampNeg))] _ _ _ _ _ _ (by simp [rdl, rky]) (by simp [rdl, rky]) (t351 _ (by omega) _ _ _ _ (by (repeat (first | exact hR67 | refine Rj.i ?_ rfl | refine Rj.a ?_ rfl | refine Rj.m ?_ | refine Rj.s ?_ (by decide) | refine Rj.o1 ?_ (by first | lia | (dsimp only [Nat.beq, gI_sI, gI_sL, gI_sA, gI_sM, gL_sI, gL_sL, gL_sA, gL_sM, aI_sI, aI_sL, aI_sA, aI_sM, aL_sI, aL_sL, aL_sA, aL_sM]; lia)) | refine Rj.o2 ?_ | refine Rj.f1 ?_ (by first | lia | (dsimp only [Nat.beq, gI_sI, gI_sL, gI_sA, gI_sM, gL_sI, gL_sL, gL_sA, gL_sM, aI_sI, aI_sL, aI_sA, aI_sM, aL_sI, aL_sL, aL_sA, aL_sM]; lia)) | refine Rj.f2 ?_ | refine Rj.fs ?_))))
                  · refine hB _ _ _ _ _ _ _ _ (fun m69 hm69 => ?_)
                    dsimp only [jgo, jwp, jst, jct, rfd, Bfinished, Nat.beq, lv_args, rlk, rs1, rs2, rdl, rky, rcd, rno, rsw, Value.category, List.filter, List.take, List.drop, List.reverse, List.reverseAux, List.cons_append, List.nil_append, Option.toList, Int.toNat, Int.reduceToNat, if_pos, if_neg, reduceIte, ↓reduceIte, Nat.reduceAdd, Nat.reduceEqDiff, Nat.reduceBEq, beq_self_eq_true, Bool.not_true, Bool.not_false, Bool.and_true, Bool.and_false, Bool.true_and, Bool.false_and, gI_sI, gI_sL, gI_sA, gI_sM, gL_sI, gL_sL, gL_sA, gL_sM, aI_sI, aI_sL, aI_sA, aI_sM, aL_sI, aL_sL, aL_sA, aL_sM, Bfinished_0, Bfinished_7, Bfinished_11, Bfinished_12, Bfinished_13, Bfinished_17, Bfinished_37, Bfinished_43, Bfinished_45, Bfinished_85, Bfinished_94, Bfinished_118, Bfinished_120, Bfinished_137, Bfinished_152, Bfinished_157, Bfinished_179, Bfinished_184, Bfinished_206, Bfinished_211, Bfinished_220, Bfinished_225, Bfinished_232, Bfinished_234, Bfinished_260, Bfinished_269, Bfinished_271, Bfinished_293, Bfinished_299, Bfinished_332, Bfinished_351, Bfinished_374, Bfinished_378, Bfinished_379, Bfinished_383, oi_0, oi_1, oi_2, oi_24, oi_25, oi_28, oi_3, oi_30, oi_31, oi_36, oi_4, oi_42, oi_45, oi_5, oi_59, oi_6, oi_7, oi_8, Pu_cant, Pj_condition, Pu_emit, Pj_enter, Pj_isRow, Pj_isWord, Pu_leave, Pj_take, Pj_want]; try dsimp only
                    try simp only [hR.e2, hR.e14, hR.e15, hR.e17, hR.e18, hR.e36, hR.e42, hR.e49, hR.e62, hR.a3, hR.a6, hR.a51, hR.a19, hR.a63, hR.a64, hR.hp, ho]
                    intro p70 q70
                    try simp only [hR.e2, hR.e14, hR.e15, hR.e17, hR.e18, hR.e36, hR.e42, hR.e49, hR.e62, hR.a3, hR.a6, hR.a51, hR.a19, hR.a63, hR.a64, hR.hp, ho]
                    refine ⟨⟨trivial, trivial⟩, fun w71 τ71 w71' τ71' hq71 => ?_⟩
                    obtain ⟨⟨rfl, hE71⟩, rfl, hF71⟩ := hq71
                    have hR71 : Rj 1 τ71 τ71' := Rj.em (by (repeat (first | exact hR | refine Rj.i ?_ rfl | refine Rj.a ?_ rfl | refine Rj.m ?_ | refine Rj.s ?_ (by decide) | refine Rj.o1 ?_ (by first | lia | (dsimp only [Nat.beq, gI_sI, gI_sL, gI_sA, gI_sM, gL_sI, gL_sL, gL_sA, gL_sM, aI_sI, aI_sL, aI_sA, aI_sM, aL_sI, aL_sL, aL_sA, aL_sM]; lia)) | refine Rj.o2 ?_ | refine Rj.f1 ?_ (by first | lia | (dsimp only [Nat.beq, gI_sI, gI_sL, gI_sA, gI_sM, gL_sI, gL_sL, gL_sA, gL_sM, aI_sI, aI_sL, aI_sA, aI_sM, aL_sI, aL_sL, aL_sA, aL_sM]; lia)) | refine Rj.f2 ?_ | refine Rj.fs ?_))) hE71 hF71 (by first | exact fun _ => rfl | exact fun q => absurd q (by decide))
                    have hp71 := hE71.1 14 (by decide)
                    have ho71 := hE71.1 29 (by decide)
                    have hh71 := hE71.1 62 (by decide)
                    have hg71 := hE71.1 49 (by decide)
                    have hw71 := hE71.1 34 (by decide)
                    have hv71 := hF71.1 34 (by decide)
                    have ht71 := hE71.2.2.2.2.1 3 (by decide)
                    try dsimp only [Nat.beq, gI_sI, gI_sL, gI_sA, gI_sM, gL_sI, gL_sL, gL_sA, gL_sM, aI_sI, aI_sL, aI_sA, aI_sM, aL_sI, aL_sL, aL_sA, aL_sM] at hp71
                    try dsimp only [Nat.beq, gI_sI, gI_sL, gI_sA, gI_sM, gL_sI, gL_sL, gL_sA, gL_sM, aI_sI, aI_sL, aI_sA, aI_sM, aL_sI, aL_sL, aL_sA, aL_sM] at ho71
                    try dsimp only [Nat.beq, gI_sI, gI_sL, gI_sA, gI_sM, gL_sI, gL_sL, gL_sA, gL_sM, aI_sI, aI_sL, aI_sA, aI_sM, aL_sI, aL_sL, aL_sA, aL_sM] at hh71
                    try dsimp only [Nat.beq, gI_sI, gI_sL, gI_sA, gI_sM, gL_sI, gL_sL, gL_sA, gL_sM, aI_sI, aI_sL, aI_sA, aI_sM, aL_sI, aL_sL, aL_sA, aL_sM] at hg71
                    try dsimp only [Nat.beq, gI_sI, gI_sL, gI_sA, gI_sM, gL_sI, gL_sL, gL_sA, gL_sM, aI_sI, aI_sL, aI_sA, aI_sM, aL_sI, aL_sL, aL_sA, aL_sM] at hw71
                    try dsimp only [Nat.beq, gI_sI, gI_sL, gI_sA, gI_sM, gL_sI, gL_sL, gL_sA, gL_sM, aI_sI, aI_sL, aI_sA, aI_sM, aL_sI, aL_sL, aL_sA, aL_sM] at hv71
                    try dsimp only [Nat.beq, gI_sI, gI_sL, gI_sA, gI_sM, gL_sI, gL_sL, gL_sA, gL_sM, aI_sI, aI_sL, aI_sA, aI_sM, aL_sI, aL_sL, aL_sA, aL_sM] at ht71
                    have hz71 := congrFun ht71 (gI τ71 14).toNatClampNeg
                    dsimp only [Option.toList, List.cons_append, List.nil_append, Nat.beq, gI_sI, gI_sL, gI_sA, gI_sM, gL_sI, gL_sL, gL_sA, gL_sM, aI_sI, aI_sL, aI_sA, aI_sM, aL_sI, aL_sL, aL_sA, aL_sM]
                    try simp only [hR71.e2, hR71.e14, hR71.e15, hR71.e17, hR71.e18, hR71.e36, hR71.e42, hR71.e49, hR71.e62, hR71.a3, hR71.a6, hR71.a51, hR71.a19, hR71.a63, hR71.a64, hR71.hp, ho, hR.e18]
                    intro p72 q72
                    try simp only [hR71.e2, hR71.e14, hR71.e15, hR71.e17, hR71.e18, hR71.e36, hR71.e42, hR71.e49, hR71.e62, hR71.a3, hR71.a6, hR71.a51, hR71.a19, hR71.a63, hR71.a64, hR71.hp, ho, hR.e18]
                    exact hW _ 351 [(0, .ref 1000), (4, .int (aI X 65 (gI X 62 - 1).toNatClampNeg))] [(0, .ref 1000), (4, .int (aI Y 65 (gI X 62 - 1).toNatClampNeg))] _ _ _ _ _ _ (by simp [rdl, rky]) (by simp [rdl, rky]) (t351 _ (by omega) _ _ _ _ (by (repeat (first | exact hR71 | refine Rj.i ?_ rfl | refine Rj.a ?_ rfl | refine Rj.m ?_ | refine Rj.s ?_ (by decide) | refine Rj.o1 ?_ (by first | lia | (dsimp only [Nat.beq, gI_sI, gI_sL, gI_sA, gI_sM, gL_sI, gL_sL, gL_sA, gL_sM, aI_sI, aI_sL, aI_sA, aI_sM, aL_sI, aL_sL, aL_sA, aL_sM]; lia)) | refine Rj.o2 ?_ | refine Rj.f1 ?_ (by first | lia | (dsimp only [Nat.beq, gI_sI, gI_sL, gI_sA, gI_sM, gL_sI, gL_sL, gL_sA, gL_sM, aI_sI, aI_sL, aI_sA, aI_sM, aL_sI, aL_sL, aL_sA, aL_sM]; lia)) | refine Rj.f2 ?_ | refine Rj.fs ?_))))
              · refine hB _ _ _ _ _ _ _ _ (fun m73 hm73 => ?_)
                dsimp only [jgo, jwp, jst, jct, rfd, Bfinished, Nat.beq, lv_args, rlk, rs1, rs2, rdl, rky, rcd, rno, rsw, Value.category, List.filter, List.take, List.drop, List.reverse, List.reverseAux, List.cons_append, List.nil_append, Option.toList, Int.toNat, Int.reduceToNat, if_pos, if_neg, reduceIte, ↓reduceIte, Nat.reduceAdd, Nat.reduceEqDiff, Nat.reduceBEq, beq_self_eq_true, Bool.not_true, Bool.not_false, Bool.and_true, Bool.and_false, Bool.true_and, Bool.false_and, gI_sI, gI_sL, gI_sA, gI_sM, gL_sI, gL_sL, gL_sA, gL_sM, aI_sI, aI_sL, aI_sA, aI_sM, aL_sI, aL_sL, aL_sA, aL_sM, Bfinished_0, Bfinished_7, Bfinished_11, Bfinished_12, Bfinished_13, Bfinished_17, Bfinished_37, Bfinished_43, Bfinished_45, Bfinished_85, Bfinished_94, Bfinished_118, Bfinished_120, Bfinished_137, Bfinished_152, Bfinished_157, Bfinished_179, Bfinished_184, Bfinished_206, Bfinished_211, Bfinished_220, Bfinished_225, Bfinished_232, Bfinished_234, Bfinished_260, Bfinished_269, Bfinished_271, Bfinished_293, Bfinished_299, Bfinished_332, Bfinished_351, Bfinished_374, Bfinished_378, Bfinished_379, Bfinished_383, oi_0, oi_1, oi_2, oi_24, oi_25, oi_28, oi_3, oi_30, oi_31, oi_36, oi_4, oi_42, oi_45, oi_5, oi_59, oi_6, oi_7, oi_8, Pu_cant, Pj_condition, Pu_emit, Pj_enter, Pj_isRow, Pj_isWord, Pu_leave, Pj_take, Pj_want]; try dsimp only
                try simp only [hR.e2, hR.e14, hR.e15, hR.e17, hR.e18, hR.e36, hR.e42, hR.e49, hR.e62, hR.a3, hR.a6, hR.a51, hR.a19, hR.a63, hR.a64, hR.hp, ho]
                refine ⟨⟨(Rj.w (md := 1) (by (repeat (first | exact hR | refine Rj.i ?_ rfl | refine Rj.a ?_ rfl | refine Rj.m ?_ | refine Rj.s ?_ (by decide) | refine Rj.o1 ?_ (by first | lia | (dsimp only [Nat.beq, gI_sI, gI_sL, gI_sA, gI_sM, gL_sI, gL_sL, gL_sA, gL_sM, aI_sI, aI_sL, aI_sA, aI_sM, aL_sI, aL_sL, aL_sA, aL_sM]; lia)) | refine Rj.o2 ?_ | refine Rj.f1 ?_ (by first | lia | (dsimp only [Nat.beq, gI_sI, gI_sL, gI_sA, gI_sM, gL_sI, gL_sL, gL_sA, gL_sM, aI_sI, aI_sL, aI_sA, aI_sM, aL_sI, aL_sL, aL_sA, aL_sM]; lia)) | refine Rj.f2 ?_ | refine Rj.fs ?_)))), (by first | exact True.intro | rfl)⟩, fun w74 τ74 w74' τ74' hq74 => ?_⟩
                obtain ⟨b74, rfl, rfl, rfl, rfl, hb74⟩ := hq74
                rcases hb74 with rfl | ⟨rfl, hf74⟩
                · dsimp only [Option.toList, List.cons_append, List.nil_append, Nat.beq, gI_sI, gI_sL, gI_sA, gI_sM, gL_sI, gL_sL, gL_sA, gL_sM, aI_sI, aI_sL, aI_sA, aI_sM, aL_sI, aL_sL, aL_sA, aL_sM]
                  try simp only [hR.e2, hR.e14, hR.e15, hR.e17, hR.e18, hR.e36, hR.e42, hR.e49, hR.e62, hR.a3, hR.a6, hR.a51, hR.a19, hR.a63, hR.a64, hR.hp, ho]
                  refine ⟨fun h75 => ⟨(by exact h75), ?_⟩, fun h75 => absurd h75 (by decide)⟩
                  clear h75
                  refine hB _ _ _ _ _ _ _ _ (fun m76 hm76 => ?_)
                  dsimp only [jgo, jwp, jst, jct, rfd, Bfinished, Nat.beq, lv_args, rlk, rs1, rs2, rdl, rky, rcd, rno, rsw, Value.category, List.filter, List.take, List.drop, List.reverse, List.reverseAux, List.cons_append, List.nil_append, Option.toList, Int.toNat, Int.reduceToNat, if_pos, if_neg, reduceIte, ↓reduceIte, Nat.reduceAdd, Nat.reduceEqDiff, Nat.reduceBEq, beq_self_eq_true, Bool.not_true, Bool.not_false, Bool.and_true, Bool.and_false, Bool.true_and, Bool.false_and, gI_sI, gI_sL, gI_sA, gI_sM, gL_sI, gL_sL, gL_sA, gL_sM, aI_sI, aI_sL, aI_sA, aI_sM, aL_sI, aL_sL, aL_sA, aL_sM, Bfinished_0, Bfinished_7, Bfinished_11, Bfinished_12, Bfinished_13, Bfinished_17, Bfinished_37, Bfinished_43, Bfinished_45, Bfinished_85, Bfinished_94, Bfinished_118, Bfinished_120, Bfinished_137, Bfinished_152, Bfinished_157, Bfinished_179, Bfinished_184, Bfinished_206, Bfinished_211, Bfinished_220, Bfinished_225, Bfinished_232, Bfinished_234, Bfinished_260, Bfinished_269, Bfinished_271, Bfinished_293, Bfinished_299, Bfinished_332, Bfinished_351, Bfinished_374, Bfinished_378, Bfinished_379, Bfinished_383, oi_0, oi_1, oi_2, oi_24, oi_25, oi_28, oi_3, oi_30, oi_31, oi_36, oi_4, oi_42, oi_45, oi_5, oi_59, oi_6, oi_7, oi_8, Pu_cant, Pj_condition, Pu_emit, Pj_enter, Pj_isRow, Pj_isWord, Pu_leave, Pj_take, Pj_want]; try dsimp only
                  try simp only [hR.e2, hR.e14, hR.e15, hR.e17, hR.e18, hR.e36, hR.e42, hR.e49, hR.e62, hR.a3, hR.a6, hR.a51, hR.a19, hR.a63, hR.a64, hR.hp, ho]
                  refine ⟨fun h77 => ⟨(by exact h77), ?_⟩, fun h77 => ⟨(by exact h77), ?_⟩⟩
                  · refine hB _ _ _ _ _ _ _ _ (fun m78 hm78 => ?_)
                    dsimp only [jgo, jwp, jst, jct, rfd, Bfinished, Nat.beq, lv_args, rlk, rs1, rs2, rdl, rky, rcd, rno, rsw, Value.category, List.filter, List.take, List.drop, List.reverse, List.reverseAux, List.cons_append, List.nil_append, Option.toList, Int.toNat, Int.reduceToNat, if_pos, if_neg, reduceIte, ↓reduceIte, Nat.reduceAdd, Nat.reduceEqDiff, Nat.reduceBEq, beq_self_eq_true, Bool.not_true, Bool.not_false, Bool.and_true, Bool.and_false, Bool.true_and, Bool.false_and, gI_sI, gI_sL, gI_sA, gI_sM, gL_sI, gL_sL, gL_sA, gL_sM, aI_sI, aI_sL, aI_sA, aI_sM, aL_sI, aL_sL, aL_sA, aL_sM, Bfinished_0, Bfinished_7, Bfinished_11, Bfinished_12, Bfinished_13, Bfinished_17, Bfinished_37, Bfinished_43, Bfinished_45, Bfinished_85, Bfinished_94, Bfinished_118, Bfinished_120, Bfinished_137, Bfinished_152, Bfinished_157, Bfinished_179, Bfinished_184, Bfinished_206, Bfinished_211, Bfinished_220, Bfinished_225, Bfinished_232, Bfinished_234, Bfinished_260, Bfinished_269, Bfinished_271, Bfinished_293, Bfinished_299, Bfinished_332, Bfinished_351, Bfinished_374, Bfinished_378, Bfinished_379, Bfinished_383, oi_0, oi_1, oi_2, oi_24, oi_25, oi_28, oi_3, oi_30, oi_31, oi_36, oi_4, oi_42, oi_45, oi_5, oi_59, oi_6, oi_7, oi_8, Pu_cant, Pj_condition, Pu_emit, Pj_enter, Pj_isRow, Pj_isWord, Pu_leave, Pj_take, Pj_want]; try dsimp only
                    try simp only [hR.e2, hR.e14, hR.e15, hR.e17, hR.e18, hR.e36, hR.e42, hR.e49, hR.e62, hR.a3, hR.a6, hR.a51, hR.a19, hR.a63, hR.a64, hR.hp, ho]
                    intro p79 q79
                    try simp only [hR.e2, hR.e14, hR.e15, hR.e17, hR.e18, hR.e36, hR.e42, hR.e49, hR.e62, hR.a3, hR.a6, hR.a51, hR.a19, hR.a63, hR.a64, hR.hp, ho]
                    refine ⟨⟨trivial, trivial⟩, fun w80 τ80 w80' τ80' hq80 => ?_⟩
                    obtain ⟨⟨rfl, hE80⟩, rfl, hF80⟩ := hq80
                    have hR80 : Rj 1 τ80 τ80' := Rj.em (by (repeat (first | exact hR | refine Rj.i ?_ rfl | refine Rj.a ?_ rfl | refine Rj.m ?_ | refine Rj.s ?_ (by decide) | refine Rj.o1 ?_ (by first | lia | (dsimp only [Nat.beq, gI_sI, gI_sL, gI_sA, gI_sM, gL_sI, gL_sL, gL_sA, gL_sM, aI_sI, aI_sL, aI_sA, aI_sM, aL_sI, aL_sL, aL_sA, aL_sM]; lia)) | refine Rj.o2 ?_ | refine Rj.f1 ?_ (by first | lia | (dsimp only [Nat.beq, gI_sI, gI_sL, gI_sA, gI_sM, gL_sI, gL_sL, gL_sA, gL_sM, aI_sI, aI_sL, aI_sA, aI_sM, aL_sI, aL_sL, aL_sA, aL_sM]; lia)) | refine Rj.f2 ?_ | refine Rj.fs ?_))) hE80 hF80 (by first | exact fun _ => rfl | exact fun q => absurd q (by decide))
                    have hp80 := hE80.1 14 (by decide)
                    have ho80 := hE80.1 29 (by decide)
                    have hh80 := hE80.1 62 (by decide)
                    have hg80 := hE80.1 49 (by decide)
                    have hw80 := hE80.1 34 (by decide)
                    have hv80 := hF80.1 34 (by decide)
                    have ht80 := hE80.2.2.2.2.1 3 (by decide)
                    try dsimp only [Nat.beq, gI_sI, gI_sL, gI_sA, gI_sM, gL_sI, gL_sL, gL_sA, gL_sM, aI_sI, aI_sL, aI_sA, aI_sM, aL_sI, aL_sL, aL_sA, aL_sM] at hp80
                    try dsimp only [Nat.beq, gI_sI, gI_sL, gI_sA, gI_sM, gL_sI, gL_sL, gL_sA, gL_sM, aI_sI, aI_sL, aI_sA, aI_sM, aL_sI, aL_sL, aL_sA, aL_sM] at ho80
                    try dsimp only [Nat.beq, gI_sI, gI_sL, gI_sA, gI_sM, gL_sI, gL_sL, gL_sA, gL_sM, aI_sI, aI_sL, aI_sA, aI_sM, aL_sI, aL_sL, aL_sA, aL_sM] at hh80
                    try dsimp only [Nat.beq, gI_sI, gI_sL, gI_sA, gI_sM, gL_sI, gL_sL, gL_sA, gL_sM, aI_sI, aI_sL, aI_sA, aI_sM, aL_sI, aL_sL, aL_sA, aL_sM] at hg80
                    try dsimp only [Nat.beq, gI_sI, gI_sL, gI_sA, gI_sM, gL_sI, gL_sL, gL_sA, gL_sM, aI_sI, aI_sL, aI_sA, aI_sM, aL_sI, aL_sL, aL_sA, aL_sM] at hw80
                    try dsimp only [Nat.beq, gI_sI, gI_sL, gI_sA, gI_sM, gL_sI, gL_sL, gL_sA, gL_sM, aI_sI, aI_sL, aI_sA, aI_sM, aL_sI, aL_sL, aL_sA, aL_sM] at hv80
                    try dsimp only [Nat.beq, gI_sI, gI_sL, gI_sA, gI_sM, gL_sI, gL_sL, gL_sA, gL_sM, aI_sI, aI_sL, aI_sA, aI_sM, aL_sI, aL_sL, aL_sA, aL_sM] at ht80
                    have hz80 := congrFun ht80 (gI τ80 14).toNatClampNeg
                    dsimp only [Option.toList, List.cons_append, List.nil_append, Nat.beq, gI_sI, gI_sL, gI_sA, gI_sM, gL_sI, gL_sL, gL_sA, gL_sM, aI_sI, aI_sL, aI_sA, aI_sM, aL_sI, aL_sL, aL_sA, aL_sM]
                    try simp only [hR80.e2, hR80.e14, hR80.e15, hR80.e17, hR80.e18, hR80.e36, hR80.e42, hR80.e49, hR80.e62, hR80.a3, hR80.a6, hR80.a51, hR80.a19, hR80.a63, hR80.a64, hR80.hp, ho, hR.e18]
                    intro p81 q81
                    try simp only [hR80.e2, hR80.e14, hR80.e15, hR80.e17, hR80.e18, hR80.e36, hR80.e42, hR80.e49, hR80.e62, hR80.a3, hR80.a6, hR80.a51, hR80.a19, hR80.a63, hR80.a64, hR80.hp, ho, hR.e18]
                    exact hW _ 351 [(0, .ref 1000), (4, .int (aI X 65 (gI X 62 - 1).toNatClampNeg))] [(0, .ref 1000), (4, .int (aI Y 65 (gI X 62 - 1).toNatClampNeg))] _ _ _ _ _ _ (by simp [rdl, rky]) (by simp [rdl, rky]) (t351 _ (by omega) _ _ _ _ (by (repeat (first | exact hR80 | refine Rj.i ?_ rfl | refine Rj.a ?_ rfl | refine Rj.m ?_ | refine Rj.s ?_ (by decide) | refine Rj.o1 ?_ (by first | lia | (dsimp only [Nat.beq, gI_sI, gI_sL, gI_sA, gI_sM, gL_sI, gL_sL, gL_sA, gL_sM, aI_sI, aI_sL, aI_sA, aI_sM, aL_sI, aL_sL, aL_sA, aL_sM]; lia)) | refine Rj.o2 ?_ | refine Rj.f1 ?_ (by first | lia | (dsimp only [Nat.beq, gI_sI, gI_sL, gI_sA, gI_sM, gL_sI, gL_sL, gL_sA, gL_sM, aI_sI, aI_sL, aI_sA, aI_sM, aL_sI, aL_sL, aL_sA, aL_sM]; lia)) | refine Rj.f2 ?_ | refine Rj.fs ?_))))
                  · refine hB _ _ _ _ _ _ _ _ (fun m82 hm82 => ?_)
                    dsimp only [jgo, jwp, jst, jct, rfd, Bfinished, Nat.beq, lv_args, rlk, rs1, rs2, rdl, rky, rcd, rno, rsw, Value.category, List.filter, List.take, List.drop, List.reverse, List.reverseAux, List.cons_append, List.nil_append, Option.toList, Int.toNat, Int.reduceToNat, if_pos, if_neg, reduceIte, ↓reduceIte, Nat.reduceAdd, Nat.reduceEqDiff, Nat.reduceBEq, beq_self_eq_true, Bool.not_true, Bool.not_false, Bool.and_true, Bool.and_false, Bool.true_and, Bool.false_and, gI_sI, gI_sL, gI_sA, gI_sM, gL_sI, gL_sL, gL_sA, gL_sM, aI_sI, aI_sL, aI_sA, aI_sM, aL_sI, aL_sL, aL_sA, aL_sM, Bfinished_0, Bfinished_7, Bfinished_11, Bfinished_12, Bfinished_13, Bfinished_17, Bfinished_37, Bfinished_43, Bfinished_45, Bfinished_85, Bfinished_94, Bfinished_118, Bfinished_120, Bfinished_137, Bfinished_152, Bfinished_157, Bfinished_179, Bfinished_184, Bfinished_206, Bfinished_211, Bfinished_220, Bfinished_225, Bfinished_232, Bfinished_234, Bfinished_260, Bfinished_269, Bfinished_271, Bfinished_293, Bfinished_299, Bfinished_332, Bfinished_351, Bfinished_374, Bfinished_378, Bfinished_379, Bfinished_383, oi_0, oi_1, oi_2, oi_24, oi_25, oi_28, oi_3, oi_30, oi_31, oi_36, oi_4, oi_42, oi_45, oi_5, oi_59, oi_6, oi_7, oi_8, Pu_cant, Pj_condition, Pu_emit, Pj_enter, Pj_isRow, Pj_isWord, Pu_leave, Pj_take, Pj_want]; try dsimp only
                    try simp only [hR.e2, hR.e14, hR.e15, hR.e17, hR.e18, hR.e36, hR.e42, hR.e49, hR.e62, hR.a3, hR.a6, hR.a51, hR.a19, hR.a63, hR.a64, hR.hp, ho]
                    refine ⟨fun h83 => ⟨(by exact h83), ?_⟩, fun h83 => ⟨(by exact h83), ?_⟩⟩
                    · refine hB _ _ _ _ _ _ _ _ (fun m84 hm84 => ?_)
                      dsimp only [jgo, jwp, jst, jct, rfd, Bfinished, Nat.beq, lv_args, rlk, rs1, rs2, rdl, rky, rcd, rno, rsw, Value.category, List.filter, List.take, List.drop, List.reverse, List.reverseAux, List.cons_append, List.nil_append, Option.toList, Int.toNat, Int.reduceToNat, if_pos, if_neg, reduceIte, ↓reduceIte, Nat.reduceAdd, Nat.reduceEqDiff, Nat.reduceBEq, beq_self_eq_true, Bool.not_true, Bool.not_false, Bool.and_true, Bool.and_false, Bool.true_and, Bool.false_and, gI_sI, gI_sL, gI_sA, gI_sM, gL_sI, gL_sL, gL_sA, gL_sM, aI_sI, aI_sL, aI_sA, aI_sM, aL_sI, aL_sL, aL_sA, aL_sM, Bfinished_0, Bfinished_7, Bfinished_11, Bfinished_12, Bfinished_13, Bfinished_17, Bfinished_37, Bfinished_43, Bfinished_45, Bfinished_85, Bfinished_94, Bfinished_118, Bfinished_120, Bfinished_137, Bfinished_152, Bfinished_157, Bfinished_179, Bfinished_184, Bfinished_206, Bfinished_211, Bfinished_220, Bfinished_225, Bfinished_232, Bfinished_234, Bfinished_260, Bfinished_269, Bfinished_271, Bfinished_293, Bfinished_299, Bfinished_332, Bfinished_351, Bfinished_374, Bfinished_378, Bfinished_379, Bfinished_383, oi_0, oi_1, oi_2, oi_24, oi_25, oi_28, oi_3, oi_30, oi_31, oi_36, oi_4, oi_42, oi_45, oi_5, oi_59, oi_6, oi_7, oi_8, Pu_cant, Pj_condition, Pu_emit, Pj_enter, Pj_isRow, Pj_isWord, Pu_leave, Pj_take, Pj_want]; try dsimp only
                      try simp only [hR.e2, hR.e14, hR.e15, hR.e17, hR.e18, hR.e36, hR.e42, hR.e49, hR.e62, hR.a3, hR.a6, hR.a51, hR.a19, hR.a63, hR.a64, hR.hp, ho]
                      refine ⟨fun h85 => ⟨(by exact h85), ?_⟩, fun h85 => ⟨(by exact h85), ?_⟩⟩
                      · refine hB _ _ _ _ _ _ _ _ (fun m86 hm86 => ?_)
                        dsimp only [jgo, jwp, jst, jct, rfd, Bfinished, Nat.beq, lv_args, rlk, rs1, rs2, rdl, rky, rcd, rno, rsw, Value.category, List.filter, List.take, List.drop, List.reverse, List.reverseAux, List.cons_append, List.nil_append, Option.toList, Int.toNat, Int.reduceToNat, if_pos, if_neg, reduceIte, ↓reduceIte, Nat.reduceAdd, Nat.reduceEqDiff, Nat.reduceBEq, beq_self_eq_true, Bool.not_true, Bool.not_false, Bool.and_true, Bool.and_false, Bool.true_and, Bool.false_and, gI_sI, gI_sL, gI_sA, gI_sM, gL_sI, gL_sL, gL_sA, gL_sM, aI_sI, aI_sL, aI_sA, aI_sM, aL_sI, aL_sL, aL_sA, aL_sM, Bfinished_0, Bfinished_7, Bfinished_11, Bfinished_12, Bfinished_13, Bfinished_17, Bfinished_37, Bfinished_43, Bfinished_45, Bfinished_85, Bfinished_94, Bfinished_118, Bfinished_120, Bfinished_137, Bfinished_152, Bfinished_157, Bfinished_179, Bfinished_184, Bfinished_206, Bfinished_211, Bfinished_220, Bfinished_225, Bfinished_232, Bfinished_234, Bfinished_260, Bfinished_269, Bfinished_271, Bfinished_293, Bfinished_299, Bfinished_332, Bfinished_351, Bfinished_374, Bfinished_378, Bfinished_379, Bfinished_383, oi_0, oi_1, oi_2, oi_24, oi_25, oi_28, oi_3, oi_30, oi_31, oi_36, oi_4, oi_42, oi_45, oi_5, oi_59, oi_6, oi_7, oi_8, Pu_cant, Pj_condition, Pu_emit, Pj_enter, Pj_isRow, Pj_isWord, Pu_leave, Pj_take, Pj_want]; try dsimp only
                        try simp only [hR.e2, hR.e14, hR.e15, hR.e17, hR.e18, hR.e36, hR.e42, hR.e49, hR.e62, hR.a3, hR.a6, hR.a51, hR.a19, hR.a63, hR.a64, hR.hp, ho]
                        refine ⟨fun h87 => ⟨(by exact h87), ?_⟩, fun h87 => ⟨(by exact h87), ?_⟩⟩
                        · refine hB _ _ _ _ _ _ _ _ (fun m88 hm88 => ?_)
                          dsimp only [jgo, jwp, jst, jct, rfd, Bfinished, Nat.beq, lv_args, rlk, rs1, rs2, rdl, rky, rcd, rno, rsw, Value.category, List.filter, List.take, List.drop, List.reverse, List.reverseAux, List.cons_append, List.nil_append, Option.toList, Int.toNat, Int.reduceToNat, if_pos, if_neg, reduceIte, ↓reduceIte, Nat.reduceAdd, Nat.reduceEqDiff, Nat.reduceBEq, beq_self_eq_true, Bool.not_true, Bool.not_false, Bool.and_true, Bool.and_false, Bool.true_and, Bool.false_and, gI_sI, gI_sL, gI_sA, gI_sM, gL_sI, gL_sL, gL_sA, gL_sM, aI_sI, aI_sL, aI_sA, aI_sM, aL_sI, aL_sL, aL_sA, aL_sM, Bfinished_0, Bfinished_7, Bfinished_11, Bfinished_12, Bfinished_13, Bfinished_17, Bfinished_37, Bfinished_43, Bfinished_45, Bfinished_85, Bfinished_94, Bfinished_118, Bfinished_120, Bfinished_137, Bfinished_152, Bfinished_157, Bfinished_179, Bfinished_184, Bfinished_206, Bfinished_211, Bfinished_220, Bfinished_225, Bfinished_232, Bfinished_234, Bfinished_260, Bfinished_269, Bfinished_271, Bfinished_293, Bfinished_299, Bfinished_332, Bfinished_351, Bfinished_374, Bfinished_378, Bfinished_379, Bfinished_383, oi_0, oi_1, oi_2, oi_24, oi_25, oi_28, oi_3, oi_30, oi_31, oi_36, oi_4, oi_42, oi_45, oi_5, oi_59, oi_6, oi_7, oi_8, Pu_cant, Pj_condition, Pu_emit, Pj_enter, Pj_isRow, Pj_isWord, Pu_leave, Pj_take, Pj_want]; try dsimp only
                          try simp only [hR.e2, hR.e14, hR.e15, hR.e17, hR.e18, hR.e36, hR.e42, hR.e49, hR.e62, hR.a3, hR.a6, hR.a51, hR.a19, hR.a63, hR.a64, hR.hp, ho]
                          refine ⟨fun h89 => ⟨(by exact h89), ?_⟩, fun h89 => ⟨(by exact h89), ?_⟩⟩
                          · refine hB _ _ _ _ _ _ _ _ (fun m90 hm90 => ?_)
                            dsimp only [jgo, jwp, jst, jct, rfd, Bfinished, Nat.beq, lv_args, rlk, rs1, rs2, rdl, rky, rcd, rno, rsw, Value.category, List.filter, List.take, List.drop, List.reverse, List.reverseAux, List.cons_append, List.nil_append, Option.toList, Int.toNat, Int.reduceToNat, if_pos, if_neg, reduceIte, ↓reduceIte, Nat.reduceAdd, Nat.reduceEqDiff, Nat.reduceBEq, beq_self_eq_true, Bool.not_true, Bool.not_false, Bool.and_true, Bool.and_false, Bool.true_and, Bool.false_and, gI_sI, gI_sL, gI_sA, gI_sM, gL_sI, gL_sL, gL_sA, gL_sM, aI_sI, aI_sL, aI_sA, aI_sM, aL_sI, aL_sL, aL_sA, aL_sM, Bfinished_0, Bfinished_7, Bfinished_11, Bfinished_12, Bfinished_13, Bfinished_17, Bfinished_37, Bfinished_43, Bfinished_45, Bfinished_85, Bfinished_94, Bfinished_118, Bfinished_120, Bfinished_137, Bfinished_152, Bfinished_157, Bfinished_179, Bfinished_184, Bfinished_206, Bfinished_211, Bfinished_220, Bfinished_225, Bfinished_232, Bfinished_234, Bfinished_260, Bfinished_269, Bfinished_271, Bfinished_293, Bfinished_299, Bfinished_332, Bfinished_351, Bfinished_374, Bfinished_378, Bfinished_379, Bfinished_383, oi_0, oi_1, oi_2, oi_24, oi_25, oi_28, oi_3, oi_30, oi_31, oi_36, oi_4, oi_42, oi_45, oi_5, oi_59, oi_6, oi_7, oi_8, Pu_cant, Pj_condition, Pu_emit, Pj_enter, Pj_isRow, Pj_isWord, Pu_leave, Pj_take, Pj_want]; try dsimp only
                            try simp only [hR.e2, hR.e14, hR.e15, hR.e17, hR.e18, hR.e36, hR.e42, hR.e49, hR.e62, hR.a3, hR.a6, hR.a51, hR.a19, hR.a63, hR.a64, hR.hp, ho]
                            intro p91 q91
                            try simp only [hR.e2, hR.e14, hR.e15, hR.e17, hR.e18, hR.e36, hR.e42, hR.e49, hR.e62, hR.a3, hR.a6, hR.a51, hR.a19, hR.a63, hR.a64, hR.hp, ho]
                            refine ⟨⟨trivial, trivial⟩, fun w92 τ92 w92' τ92' hq92 => ?_⟩
                            obtain ⟨⟨rfl, hE92⟩, rfl, hF92⟩ := hq92
                            have hR92 : Rj 1 τ92 τ92' := Rj.em (by (repeat (first | exact hR | refine Rj.i ?_ rfl | refine Rj.a ?_ rfl | refine Rj.m ?_ | refine Rj.s ?_ (by decide) | refine Rj.o1 ?_ (by first | lia | (dsimp only [Nat.beq, gI_sI, gI_sL, gI_sA, gI_sM, gL_sI, gL_sL, gL_sA, gL_sM, aI_sI, aI_sL, aI_sA, aI_sM, aL_sI, aL_sL, aL_sA, aL_sM]; lia)) | refine Rj.o2 ?_ | refine Rj.f1 ?_ (by first | lia | (dsimp only [Nat.beq, gI_sI, gI_sL, gI_sA, gI_sM, gL_sI, gL_sL, gL_sA, gL_sM, aI_sI, aI_sL, aI_sA, aI_sM, aL_sI, aL_sL, aL_sA, aL_sM]; lia)) | refine Rj.f2 ?_ | refine Rj.fs ?_))) hE92 hF92 (by first | exact fun _ => rfl | exact fun q => absurd q (by decide))
                            have hp92 := hE92.1 14 (by decide)
                            have ho92 := hE92.1 29 (by decide)
                            have hh92 := hE92.1 62 (by decide)
                            have hg92 := hE92.1 49 (by decide)
                            have hw92 := hE92.1 34 (by decide)
                            have hv92 := hF92.1 34 (by decide)
                            have ht92 := hE92.2.2.2.2.1 3 (by decide)
                            try dsimp only [Nat.beq, gI_sI, gI_sL, gI_sA, gI_sM, gL_sI, gL_sL, gL_sA, gL_sM, aI_sI, aI_sL, aI_sA, aI_sM, aL_sI, aL_sL, aL_sA, aL_sM] at hp92
                            try dsimp only [Nat.beq, gI_sI, gI_sL, gI_sA, gI_sM, gL_sI, gL_sL, gL_sA, gL_sM, aI_sI, aI_sL, aI_sA, aI_sM, aL_sI, aL_sL, aL_sA, aL_sM] at ho92
                            try dsimp only [Nat.beq, gI_sI, gI_sL, gI_sA, gI_sM, gL_sI, gL_sL, gL_sA, gL_sM, aI_sI, aI_sL, aI_sA, aI_sM, aL_sI, aL_sL, aL_sA, aL_sM] at hh92
                            try dsimp only [Nat.beq, gI_sI, gI_sL, gI_sA, gI_sM, gL_sI, gL_sL, gL_sA, gL_sM, aI_sI, aI_sL, aI_sA, aI_sM, aL_sI, aL_sL, aL_sA, aL_sM] at hg92
                            try dsimp only [Nat.beq, gI_sI, gI_sL, gI_sA, gI_sM, gL_sI, gL_sL, gL_sA, gL_sM, aI_sI, aI_sL, aI_sA, aI_sM, aL_sI, aL_sL, aL_sA, aL_sM] at hw92
                            try dsimp only [Nat.beq, gI_sI, gI_sL, gI_sA, gI_sM, gL_sI, gL_sL, gL_sA, gL_sM, aI_sI, aI_sL, aI_sA, aI_sM, aL_sI, aL_sL, aL_sA, aL_sM] at hv92
                            try dsimp only [Nat.beq, gI_sI, gI_sL, gI_sA, gI_sM, gL_sI, gL_sL, gL_sA, gL_sM, aI_sI, aI_sL, aI_sA, aI_sM, aL_sI, aL_sL, aL_sA, aL_sM] at ht92
                            have hz92 := congrFun ht92 (gI τ92 14).toNatClampNeg
                            dsimp only [Option.toList, List.cons_append, List.nil_append, Nat.beq, gI_sI, gI_sL, gI_sA, gI_sM, gL_sI, gL_sL, gL_sA, gL_sM, aI_sI, aI_sL, aI_sA, aI_sM, aL_sI, aL_sL, aL_sA, aL_sM]
                            try simp only [hR92.e2, hR92.e14, hR92.e15, hR92.e17, hR92.e18, hR92.e36, hR92.e42, hR92.e49, hR92.e62, hR92.a3, hR92.a6, hR92.a51, hR92.a19, hR92.a63, hR92.a64, hR92.hp, ho, hR.e18]
                            intro p93 q93
                            try simp only [hR92.e2, hR92.e14, hR92.e15, hR92.e17, hR92.e18, hR92.e36, hR92.e42, hR92.e49, hR92.e62, hR92.a3, hR92.a6, hR92.a51, hR92.a19, hR92.a63, hR92.a64, hR92.hp, ho, hR.e18]
                            exact hW _ 351 [(0, .ref 1000), (4, .int (aI X 65 (gI X 62 - 1).toNatClampNeg))] [(0, .ref 1000), (4, .int (aI Y 65 (gI X 62 - 1).toNatClampNeg))] _ _ _ _ _ _ (by simp [rdl, rky]) (by simp [rdl, rky]) (t351 _ (by omega) _ _ _ _ (by (repeat (first | exact hR92 | refine Rj.i ?_ rfl | refine Rj.a ?_ rfl | refine Rj.m ?_ | refine Rj.s ?_ (by decide) | refine Rj.o1 ?_ (by first | lia | (dsimp only [Nat.beq, gI_sI, gI_sL, gI_sA, gI_sM, gL_sI, gL_sL, gL_sA, gL_sM, aI_sI, aI_sL, aI_sA, aI_sM, aL_sI, aL_sL, aL_sA, aL_sM]; lia)) | refine Rj.o2 ?_ | refine Rj.f1 ?_ (by first | lia | (dsimp only [Nat.beq, gI_sI, gI_sL, gI_sA, gI_sM, gL_sI, gL_sL, gL_sA, gL_sM, aI_sI, aI_sL, aI_sA, aI_sM, aL_sI, aL_sL, aL_sA, aL_sM]; lia)) | refine Rj.f2 ?_ | refine Rj.fs ?_))))
                          · refine hB _ _ _ _ _ _ _ _ (fun m94 hm94 => ?_)
                            dsimp only [jgo, jwp, jst, jct, rfd, Bfinished, Nat.beq, lv_args, rlk, rs1, rs2, rdl, rky, rcd, rno, rsw, Value.category, List.filter, List.take, List.drop, List.reverse, List.reverseAux, List.cons_append, List.nil_append, Option.toList, Int.toNat, Int.reduceToNat, if_pos, if_neg, reduceIte, ↓reduceIte, Nat.reduceAdd, Nat.reduceEqDiff, Nat.reduceBEq, beq_self_eq_true, Bool.not_true, Bool.not_false, Bool.and_true, Bool.and_false, Bool.true_and, Bool.false_and, gI_sI, gI_sL, gI_sA, gI_sM, gL_sI, gL_sL, gL_sA, gL_sM, aI_sI, aI_sL, aI_sA, aI_sM, aL_sI, aL_sL, aL_sA, aL_sM, Bfinished_0, Bfinished_7, Bfinished_11, Bfinished_12, Bfinished_13, Bfinished_17, Bfinished_37, Bfinished_43, Bfinished_45, Bfinished_85, Bfinished_94, Bfinished_118, Bfinished_120, Bfinished_137, Bfinished_152, Bfinished_157, Bfinished_179, Bfinished_184, Bfinished_206, Bfinished_211, Bfinished_220, Bfinished_225, Bfinished_232, Bfinished_234, Bfinished_260, Bfinished_269, Bfinished_271, Bfinished_293, Bfinished_299, Bfinished_332, Bfinished_351, Bfinished_374, Bfinished_378, Bfinished_379, Bfinished_383, oi_0, oi_1, oi_2, oi_24, oi_25, oi_28, oi_3, oi_30, oi_31, oi_36, oi_4, oi_42, oi_45, oi_5, oi_59, oi_6, oi_7, oi_8, Pu_cant, Pj_condition, Pu_emit, Pj_enter, Pj_isRow, Pj_isWord, Pu_leave, Pj_take, Pj_want]; try dsimp only
                            try simp only [hR.e2, hR.e14, hR.e15, hR.e17, hR.e18, hR.e36, hR.e42, hR.e49, hR.e62, hR.a3, hR.a6, hR.a51, hR.a19, hR.a63, hR.a64, hR.hp, ho]
                            refine ⟨⟨trivial, trivial⟩, fun w95 τ95 w95' τ95' hq95 => ?_⟩
                            obtain ⟨⟨rfl, f95, rfl⟩, rfl, f95', rfl⟩ := hq95
                            dsimp only [Option.toList, List.cons_append, List.nil_append, Nat.beq, gI_sI, gI_sL, gI_sA, gI_sM, gL_sI, gL_sL, gL_sA, gL_sM, aI_sI, aI_sL, aI_sA, aI_sM, aL_sI, aL_sL, aL_sA, aL_sM]
                            try simp only [hR.e2, hR.e14, hR.e15, hR.e17, hR.e18, hR.e36, hR.e42, hR.e49, hR.e62, hR.a3, hR.a6, hR.a51, hR.a19, hR.a63, hR.a64, hR.hp, ho]
                            intro p96 q96
                            try simp only [hR.e2, hR.e14, hR.e15, hR.e17, hR.e18, hR.e36, hR.e42, hR.e49, hR.e62, hR.a3, hR.a6, hR.a51, hR.a19, hR.a63, hR.a64, hR.hp, ho]
                            refine ⟨⟨trivial, trivial⟩, fun w97 τ97 w97' τ97' hq97 => ?_⟩
                            obtain ⟨⟨rfl, hE97⟩, rfl, hF97⟩ := hq97
                            have hR97 : Rj 1 τ97 τ97' := Rj.em (by (repeat (first | exact hR | refine Rj.i ?_ rfl | refine Rj.a ?_ rfl | refine Rj.m ?_ | refine Rj.s ?_ (by decide) | refine Rj.o1 ?_ (by first | lia | (dsimp only [Nat.beq, gI_sI, gI_sL, gI_sA, gI_sM, gL_sI, gL_sL, gL_sA, gL_sM, aI_sI, aI_sL, aI_sA, aI_sM, aL_sI, aL_sL, aL_sA, aL_sM]; lia)) | refine Rj.o2 ?_ | refine Rj.f1 ?_ (by first | lia | (dsimp only [Nat.beq, gI_sI, gI_sL, gI_sA, gI_sM, gL_sI, gL_sL, gL_sA, gL_sM, aI_sI, aI_sL, aI_sA, aI_sM, aL_sI, aL_sL, aL_sA, aL_sM]; lia)) | refine Rj.f2 ?_ | refine Rj.fs ?_))) hE97 hF97 (by first | exact fun _ => rfl | exact fun q => absurd q (by decide))
                            have hp97 := hE97.1 14 (by decide)
                            have ho97 := hE97.1 29 (by decide)
                            have hh97 := hE97.1 62 (by decide)
                            have hg97 := hE97.1 49 (by decide)
                            have hw97 := hE97.1 34 (by decide)
                            have hv97 := hF97.1 34 (by decide)
                            have ht97 := hE97.2.2.2.2.1 3 (by decide)
                            try dsimp only [Nat.beq, gI_sI, gI_sL, gI_sA, gI_sM, gL_sI, gL_sL, gL_sA, gL_sM, aI_sI, aI_sL, aI_sA, aI_sM, aL_sI, aL_sL, aL_sA, aL_sM] at hp97
                            try dsimp only [Nat.beq, gI_sI, gI_sL, gI_sA, gI_sM, gL_sI, gL_sL, gL_sA, gL_sM, aI_sI, aI_sL, aI_sA, aI_sM, aL_sI, aL_sL, aL_sA, aL_sM] at ho97
                            try dsimp only [Nat.beq, gI_sI, gI_sL, gI_sA, gI_sM, gL_sI, gL_sL, gL_sA, gL_sM, aI_sI, aI_sL, aI_sA, aI_sM, aL_sI, aL_sL, aL_sA, aL_sM] at hh97
                            try dsimp only [Nat.beq, gI_sI, gI_sL, gI_sA, gI_sM, gL_sI, gL_sL, gL_sA, gL_sM, aI_sI, aI_sL, aI_sA, aI_sM, aL_sI, aL_sL, aL_sA, aL_sM] at hg97
                            try dsimp only [Nat.beq, gI_sI, gI_sL, gI_sA, gI_sM, gL_sI, gL_sL, gL_sA, gL_sM, aI_sI, aI_sL, aI_sA, aI_sM, aL_sI, aL_sL, aL_sA, aL_sM] at hw97
                            try dsimp only [Nat.beq, gI_sI, gI_sL, gI_sA, gI_sM, gL_sI, gL_sL, gL_sA, gL_sM, aI_sI, aI_sL, aI_sA, aI_sM, aL_sI, aL_sL, aL_sA, aL_sM] at hv97
                            try dsimp only [Nat.beq, gI_sI, gI_sL, gI_sA, gI_sM, gL_sI, gL_sL, gL_sA, gL_sM, aI_sI, aI_sL, aI_sA, aI_sM, aL_sI, aL_sL, aL_sA, aL_sM] at ht97
                            have hz97 := congrFun ht97 (gI τ97 14).toNatClampNeg
                            dsimp only [Option.toList, List.cons_append, List.nil_append, Nat.beq, gI_sI, gI_sL, gI_sA, gI_sM, gL_sI, gL_sL, gL_sA, gL_sM, aI_sI, aI_sL, aI_sA, aI_sM, aL_sI, aL_sL, aL_sA, aL_sM]
                            try simp only [hR97.e2, hR97.e14, hR97.e15, hR97.e17, hR97.e18, hR97.e36, hR97.e42, hR97.e49, hR97.e62, hR97.a3, hR97.a6, hR97.a51, hR97.a19, hR97.a63, hR97.a64, hR97.hp, ho, hR.e18]
                            intro p98 q98
                            try simp only [hR97.e2, hR97.e14, hR97.e15, hR97.e17, hR97.e18, hR97.e36, hR97.e42, hR97.e49, hR97.e62, hR97.a3, hR97.a6, hR97.a51, hR97.a19, hR97.a63, hR97.a64, hR97.hp, ho, hR.e18]
                            exact hW _ 351 [(0, .ref 1000), (4, .int (aI X 65 (gI X 62 - 1).toNatClampNeg))] [(0, .ref 1000), (4, .int (aI Y 65 (gI X 62 - 1).toNatClampNeg))] _ _ _ _ _ _ (by simp [rdl, rky]) (by simp [rdl, rky]) (t351 _ (by omega) _ _ _ _ (by (repeat (first | exact hR97 | refine Rj.i ?_ rfl | refine Rj.a ?_ rfl | refine Rj.m ?_ | refine Rj.s ?_ (by decide) | refine Rj.o1 ?_ (by first | lia | (dsimp only [Nat.beq, gI_sI, gI_sL, gI_sA, gI_sM, gL_sI, gL_sL, gL_sA, gL_sM, aI_sI, aI_sL, aI_sA, aI_sM, aL_sI, aL_sL, aL_sA, aL_sM]; lia)) | refine Rj.o2 ?_ | refine Rj.f1 ?_ (by first | lia | (dsimp only [Nat.beq, gI_sI, gI_sL, gI_sA, gI_sM, gL_sI, gL_sL, gL_sA, gL_sM, aI_sI, aI_sL, aI_sA, aI_sM, aL_sI, aL_sL, aL_sA, aL_sM]; lia)) | refine Rj.f2 ?_ | refine Rj.fs ?_))))
                        · refine hB _ _ _ _ _ _ _ _ (fun m99 hm99 => ?_)
                          dsimp only [jgo, jwp, jst, jct, rfd, Bfinished, Nat.beq, lv_args, rlk, rs1, rs2, rdl, rky, rcd, rno, rsw, Value.category, List.filter, List.take, List.drop, List.reverse, List.reverseAux, List.cons_append, List.nil_append, Option.toList, Int.toNat, Int.reduceToNat, if_pos, if_neg, reduceIte, ↓reduceIte, Nat.reduceAdd, Nat.reduceEqDiff, Nat.reduceBEq, beq_self_eq_true, Bool.not_true, Bool.not_false, Bool.and_true, Bool.and_false, Bool.true_and, Bool.false_and, gI_sI, gI_sL, gI_sA, gI_sM, gL_sI, gL_sL, gL_sA, gL_sM, aI_sI, aI_sL, aI_sA, aI_sM, aL_sI, aL_sL, aL_sA, aL_sM, Bfinished_0, Bfinished_7, Bfinished_11, Bfinished_12, Bfinished_13, Bfinished_17, Bfinished_37, Bfinished_43, Bfinished_45, Bfinished_85, Bfinished_94, Bfinished_118, Bfinished_120, Bfinished_137, Bfinished_152, Bfinished_157, Bfinished_179, Bfinished_184, Bfinished_206, Bfinished_211, Bfinished_220, Bfinished_225, Bfinished_232, Bfinished_234, Bfinished_260, Bfinished_269, Bfinished_271, Bfinished_293, Bfinished_299, Bfinished_332, Bfinished_351, Bfinished_374, Bfinished_378, Bfinished_379, Bfinished_383, oi_0, oi_1, oi_2, oi_24, oi_25, oi_28, oi_3, oi_30, oi_31, oi_36, oi_4, oi_42, oi_45, oi_5, oi_59, oi_6, oi_7, oi_8, Pu_cant, Pj_condition, Pu_emit, Pj_enter, Pj_isRow, Pj_isWord, Pu_leave, Pj_take, Pj_want]; try dsimp only
                          try simp only [hR.e2, hR.e14, hR.e15, hR.e17, hR.e18, hR.e36, hR.e42, hR.e49, hR.e62, hR.a3, hR.a6, hR.a51, hR.a19, hR.a63, hR.a64, hR.hp, ho]
                          refine ⟨⟨(Rj.w (md := 1) (by (repeat (first | exact hR | refine Rj.i ?_ rfl | refine Rj.a ?_ rfl | refine Rj.m ?_ | refine Rj.s ?_ (by decide) | refine Rj.o1 ?_ (by first | lia | (dsimp only [Nat.beq, gI_sI, gI_sL, gI_sA, gI_sM, gL_sI, gL_sL, gL_sA, gL_sM, aI_sI, aI_sL, aI_sA, aI_sM, aL_sI, aL_sL, aL_sA, aL_sM]; lia)) | refine Rj.o2 ?_ | refine Rj.f1 ?_ (by first | lia | (dsimp only [Nat.beq, gI_sI, gI_sL, gI_sA, gI_sM, gL_sI, gL_sL, gL_sA, gL_sM, aI_sI, aI_sL, aI_sA, aI_sM, aL_sI, aL_sL, aL_sA, aL_sM]; lia)) | refine Rj.f2 ?_ | refine Rj.fs ?_)))), (by first | exact True.intro | rfl)⟩, fun w100 τ100 w100' τ100' hq100 => ?_⟩
                          obtain ⟨b100, rfl, rfl, rfl, rfl, hb100⟩ := hq100
                          rcases hb100 with rfl | ⟨rfl, hf100⟩
                          · dsimp only [Option.toList, List.cons_append, List.nil_append, Nat.beq, gI_sI, gI_sL, gI_sA, gI_sM, gL_sI, gL_sL, gL_sA, gL_sM, aI_sI, aI_sL, aI_sA, aI_sM, aL_sI, aL_sL, aL_sA, aL_sM]
                            try simp only [hR.e2, hR.e14, hR.e15, hR.e17, hR.e18, hR.e36, hR.e42, hR.e49, hR.e62, hR.a3, hR.a6, hR.a51, hR.a19, hR.a63, hR.a64, hR.hp, ho]
                            refine ⟨fun h101 => absurd h101 (by decide), fun h101 => ⟨(by exact h101), ?_⟩⟩
                            clear h101
                            refine hB _ _ _ _ _ _ _ _ (fun m102 hm102 => ?_)
                            dsimp only [jgo, jwp, jst, jct, rfd, Bfinished, Nat.beq, lv_args, rlk, rs1, rs2, rdl, rky, rcd, rno, rsw, Value.category, List.filter, List.take, List.drop, List.reverse, List.reverseAux, List.cons_append, List.nil_append, Option.toList, Int.toNat, Int.reduceToNat, if_pos, if_neg, reduceIte, ↓reduceIte, Nat.reduceAdd, Nat.reduceEqDiff, Nat.reduceBEq, beq_self_eq_true, Bool.not_true, Bool.not_false, Bool.and_true, Bool.and_false, Bool.true_and, Bool.false_and, gI_sI, gI_sL, gI_sA, gI_sM, gL_sI, gL_sL, gL_sA, gL_sM, aI_sI, aI_sL, aI_sA, aI_sM, aL_sI, aL_sL, aL_sA, aL_sM, Bfinished_0, Bfinished_7, Bfinished_11, Bfinished_12, Bfinished_13, Bfinished_17, Bfinished_37, Bfinished_43, Bfinished_45, Bfinished_85, Bfinished_94, Bfinished_118, Bfinished_120, Bfinished_137, Bfinished_152, Bfinished_157, Bfinished_179, Bfinished_184, Bfinished_206, Bfinished_211, Bfinished_220, Bfinished_225, Bfinished_232, Bfinished_234, Bfinished_260, Bfinished_269, Bfinished_271, Bfinished_293, Bfinished_299, Bfinished_332, Bfinished_351, Bfinished_374, Bfinished_378, Bfinished_379, Bfinished_383, oi_0, oi_1, oi_2, oi_24, oi_25, oi_28, oi_3, oi_30, oi_31, oi_36, oi_4, oi_42, oi_45, oi_5, oi_59, oi_6, oi_7, oi_8, Pu_cant, Pj_condition, Pu_emit, Pj_enter, Pj_isRow, Pj_isWord, Pu_leave, Pj_take, Pj_want]; try dsimp only
                            try simp only [hR.e2, hR.e14, hR.e15, hR.e17, hR.e18, hR.e36, hR.e42, hR.e49, hR.e62, hR.a3, hR.a6, hR.a51, hR.a19, hR.a63, hR.a64, hR.hp, ho]
                            refine ⟨⟨trivial, trivial⟩, fun w103 τ103 w103' τ103' hq103 => ?_⟩
                            obtain ⟨rfl, rfl⟩ := hq103
                            dsimp only [Option.toList, List.cons_append, List.nil_append, Nat.beq, gI_sI, gI_sL, gI_sA, gI_sM, gL_sI, gL_sL, gL_sA, gL_sM, aI_sI, aI_sL, aI_sA, aI_sM, aL_sI, aL_sL, aL_sA, aL_sM]
                            try simp only [hR.e2, hR.e14, hR.e15, hR.e17, hR.e18, hR.e36, hR.e42, hR.e49, hR.e62, hR.a3, hR.a6, hR.a51, hR.a19, hR.a63, hR.a64, hR.hp, ho]
                            unfold Qj_finished
                            try dsimp only
                            exact ⟨_, rfl, rfl, Or.inl rfl⟩
                          · dsimp only [Option.toList, List.cons_append, List.nil_append, Nat.beq, gI_sI, gI_sL, gI_sA, gI_sM, gL_sI, gL_sL, gL_sA, gL_sM, aI_sI, aI_sL, aI_sA, aI_sM, aL_sI, aL_sL, aL_sA, aL_sM]
                            try dsimp only [Nat.beq, gI_sI, gI_sL, gI_sA, gI_sM, gL_sI, gL_sL, gL_sA, gL_sM, aI_sI, aI_sL, aI_sA, aI_sM, aL_sI, aL_sL, aL_sA, aL_sM] at hf100
                            try simp only [hR.e2, hR.e14, hR.e15, hR.e17, hR.e18, hR.e36, hR.e42, hR.e49, hR.e62, hR.a3, hR.a6, hR.a51, hR.a19, hR.a63, hR.a64, hR.hp, ho]
                            refine ⟨fun h104 => ⟨(by exact h104), ?_⟩, fun h104 => absurd h104 (by decide)⟩
                            clear h104
                            refine hB _ _ _ _ _ _ _ _ (fun m105 hm105 => ?_)
                            dsimp only [jgo, jwp, jst, jct, rfd, Bfinished, Nat.beq, lv_args, rlk, rs1, rs2, rdl, rky, rcd, rno, rsw, Value.category, List.filter, List.take, List.drop, List.reverse, List.reverseAux, List.cons_append, List.nil_append, Option.toList, Int.toNat, Int.reduceToNat, if_pos, if_neg, reduceIte, ↓reduceIte, Nat.reduceAdd, Nat.reduceEqDiff, Nat.reduceBEq, beq_self_eq_true, Bool.not_true, Bool.not_false, Bool.and_true, Bool.and_false, Bool.true_and, Bool.false_and, gI_sI, gI_sL, gI_sA, gI_sM, gL_sI, gL_sL, gL_sA, gL_sM, aI_sI, aI_sL, aI_sA, aI_sM, aL_sI, aL_sL, aL_sA, aL_sM, Bfinished_0, Bfinished_7, Bfinished_11, Bfinished_12, Bfinished_13, Bfinished_17, Bfinished_37, Bfinished_43, Bfinished_45, Bfinished_85, Bfinished_94, Bfinished_118, Bfinished_120, Bfinished_137, Bfinished_152, Bfinished_157, Bfinished_179, Bfinished_184, Bfinished_206, Bfinished_211, Bfinished_220, Bfinished_225, Bfinished_232, Bfinished_234, Bfinished_260, Bfinished_269, Bfinished_271, Bfinished_293, Bfinished_299, Bfinished_332, Bfinished_351, Bfinished_374, Bfinished_378, Bfinished_379, Bfinished_383, oi_0, oi_1, oi_2, oi_24, oi_25, oi_28, oi_3, oi_30, oi_31, oi_36, oi_4, oi_42, oi_45, oi_5, oi_59, oi_6, oi_7, oi_8, Pu_cant, Pj_condition, Pu_emit, Pj_enter, Pj_isRow, Pj_isWord, Pu_leave, Pj_take, Pj_want]; try dsimp only
                            try simp only [hR.e2, hR.e14, hR.e15, hR.e17, hR.e18, hR.e36, hR.e42, hR.e49, hR.e62, hR.a3, hR.a6, hR.a51, hR.a19, hR.a63, hR.a64, hR.hp, ho]
                            refine ⟨⟨(Rj.w (md := 1) (by (repeat (first | exact hR | refine Rj.i ?_ rfl | refine Rj.a ?_ rfl | refine Rj.m ?_ | refine Rj.s ?_ (by decide) | refine Rj.o1 ?_ (by first | lia | (dsimp only [Nat.beq, gI_sI, gI_sL, gI_sA, gI_sM, gL_sI, gL_sL, gL_sA, gL_sM, aI_sI, aI_sL, aI_sA, aI_sM, aL_sI, aL_sL, aL_sA, aL_sM]; lia)) | refine Rj.o2 ?_ | refine Rj.f1 ?_ (by first | lia | (dsimp only [Nat.beq, gI_sI, gI_sL, gI_sA, gI_sM, gL_sI, gL_sL, gL_sA, gL_sM, aI_sI, aI_sL, aI_sA, aI_sM, aL_sI, aL_sL, aL_sA, aL_sM]; lia)) | refine Rj.f2 ?_ | refine Rj.fs ?_)))), by lia, by lia⟩, fun w106 τ106 w106' τ106' hq106 => ?_⟩
                            obtain ⟨b106, rfl, rfl, hb106⟩ := hq106
                            rcases hb106 with rfl | ⟨rfl, hr106, hk106, hx106⟩
                            · dsimp only [Option.toList, List.cons_append, List.nil_append, Nat.beq, gI_sI, gI_sL, gI_sA, gI_sM, gL_sI, gL_sL, gL_sA, gL_sM, aI_sI, aI_sL, aI_sA, aI_sM, aL_sI, aL_sL, aL_sA, aL_sM]
                              try simp only [hR.e2, hR.e14, hR.e15, hR.e17, hR.e18, hR.e36, hR.e42, hR.e49, hR.e62, hR.a3, hR.a6, hR.a51, hR.a19, hR.a63, hR.a64, hR.hp, ho]
                              refine ⟨fun h107 => absurd h107 (by decide), fun h107 => ⟨(by exact h107), ?_⟩⟩
                              clear h107
                              refine hB _ _ _ _ _ _ _ _ (fun m108 hm108 => ?_)
                              dsimp only [jgo, jwp, jst, jct, rfd, Bfinished, Nat.beq, lv_args, rlk, rs1, rs2, rdl, rky, rcd, rno, rsw, Value.category, List.filter, List.take, List.drop, List.reverse, List.reverseAux, List.cons_append, List.nil_append, Option.toList, Int.toNat, Int.reduceToNat, if_pos, if_neg, reduceIte, ↓reduceIte, Nat.reduceAdd, Nat.reduceEqDiff, Nat.reduceBEq, beq_self_eq_true, Bool.not_true, Bool.not_false, Bool.and_true, Bool.and_false, Bool.true_and, Bool.false_and, gI_sI, gI_sL, gI_sA, gI_sM, gL_sI, gL_sL, gL_sA, gL_sM, aI_sI, aI_sL, aI_sA, aI_sM, aL_sI, aL_sL, aL_sA, aL_sM, Bfinished_0, Bfinished_7, Bfinished_11, Bfinished_12, Bfinished_13, Bfinished_17, Bfinished_37, Bfinished_43, Bfinished_45, Bfinished_85, Bfinished_94, Bfinished_118, Bfinished_120, Bfinished_137, Bfinished_152, Bfinished_157, Bfinished_179, Bfinished_184, Bfinished_206, Bfinished_211, Bfinished_220, Bfinished_225, Bfinished_232, Bfinished_234, Bfinished_260, Bfinished_269, Bfinished_271, Bfinished_293, Bfinished_299, Bfinished_332, Bfinished_351, Bfinished_374, Bfinished_378, Bfinished_379, Bfinished_383, oi_0, oi_1, oi_2, oi_24, oi_25, oi_28, oi_3, oi_30, oi_31, oi_36, oi_4, oi_42, oi_45, oi_5, oi_59, oi_6, oi_7, oi_8, Pu_cant, Pj_condition, Pu_emit, Pj_enter, Pj_isRow, Pj_isWord, Pu_leave, Pj_take, Pj_want]; try dsimp only
                              try simp only [hR.e2, hR.e14, hR.e15, hR.e17, hR.e18, hR.e36, hR.e42, hR.e49, hR.e62, hR.a3, hR.a6, hR.a51, hR.a19, hR.a63, hR.a64, hR.hp, ho]
                              unfold Qj_finished
                              try dsimp only
                              exact ⟨_, rfl, rfl, Or.inl rfl⟩
                            · dsimp only [Option.toList, List.cons_append, List.nil_append, Nat.beq, gI_sI, gI_sL, gI_sA, gI_sM, gL_sI, gL_sL, gL_sA, gL_sM, aI_sI, aI_sL, aI_sA, aI_sM, aL_sI, aL_sL, aL_sA, aL_sM]
                              have hR106 : Rj 1 τ106 τ106' := hr106 _ (by (repeat (first | exact hR | refine Rj.i ?_ rfl | refine Rj.a ?_ rfl | refine Rj.m ?_ | refine Rj.s ?_ (by decide) | refine Rj.o1 ?_ (by first | lia | (dsimp only [Nat.beq, gI_sI, gI_sL, gI_sA, gI_sM, gL_sI, gL_sL, gL_sA, gL_sM, aI_sI, aI_sL, aI_sA, aI_sM, aL_sI, aL_sL, aL_sA, aL_sM]; lia)) | refine Rj.o2 ?_ | refine Rj.f1 ?_ (by first | lia | (dsimp only [Nat.beq, gI_sI, gI_sL, gI_sA, gI_sM, gL_sI, gL_sL, gL_sA, gL_sM, aI_sI, aI_sL, aI_sA, aI_sM, aL_sI, aL_sL, aL_sA, aL_sM]; lia)) | refine Rj.f2 ?_ | refine Rj.fs ?_)))
                              have ht106 := hk106.2 3 rfl
                              have hc106 := hk106.1 2 rfl
                              try dsimp only [Nat.beq, gI_sI, gI_sL, gI_sA, gI_sM, gL_sI, gL_sL, gL_sA, gL_sM, aI_sI, aI_sL, aI_sA, aI_sM, aL_sI, aL_sL, aL_sA, aL_sM] at hx106
                              try dsimp only [Nat.beq, gI_sI, gI_sL, gI_sA, gI_sM, gL_sI, gL_sL, gL_sA, gL_sM, aI_sI, aI_sL, aI_sA, aI_sM, aL_sI, aL_sL, aL_sA, aL_sM] at ht106
                              try dsimp only [Nat.beq, gI_sI, gI_sL, gI_sA, gI_sM, gL_sI, gL_sL, gL_sA, gL_sM, aI_sI, aI_sL, aI_sA, aI_sM, aL_sI, aL_sL, aL_sA, aL_sM] at hc106
                              have hh106 := hk106.1 62 rfl
                              have hg106 := hk106.1 49 rfl
                              try dsimp only [Nat.beq, gI_sI, gI_sL, gI_sA, gI_sM, gL_sI, gL_sL, gL_sA, gL_sM, aI_sI, aI_sL, aI_sA, aI_sM, aL_sI, aL_sL, aL_sA, aL_sM] at hh106
                              try dsimp only [Nat.beq, gI_sI, gI_sL, gI_sA, gI_sM, gL_sI, gL_sL, gL_sA, gL_sM, aI_sI, aI_sL, aI_sA, aI_sM, aL_sI, aL_sL, aL_sA, aL_sM] at hg106
                              have hz106 := congrFun ht106 (gI τ106 14).toNatClampNeg
                              try simp only [hR106.e2, hR106.e14, hR106.e15, hR106.e17, hR106.e18, hR106.e36, hR106.e42, hR106.e49, hR106.e62, hR106.a3, hR106.a6, hR106.a51, hR106.a19, hR106.a63, hR106.a64, hR106.hp, ho]
                              refine ⟨fun h109 => ⟨(by exact h109), ?_⟩, fun h109 => absurd h109 (by decide)⟩
                              clear h109
                              refine hB _ _ _ _ _ _ _ _ (fun m110 hm110 => ?_)
                              dsimp only [jgo, jwp, jst, jct, rfd, Bfinished, Nat.beq, lv_args, rlk, rs1, rs2, rdl, rky, rcd, rno, rsw, Value.category, List.filter, List.take, List.drop, List.reverse, List.reverseAux, List.cons_append, List.nil_append, Option.toList, Int.toNat, Int.reduceToNat, if_pos, if_neg, reduceIte, ↓reduceIte, Nat.reduceAdd, Nat.reduceEqDiff, Nat.reduceBEq, beq_self_eq_true, Bool.not_true, Bool.not_false, Bool.and_true, Bool.and_false, Bool.true_and, Bool.false_and, gI_sI, gI_sL, gI_sA, gI_sM, gL_sI, gL_sL, gL_sA, gL_sM, aI_sI, aI_sL, aI_sA, aI_sM, aL_sI, aL_sL, aL_sA, aL_sM, Bfinished_0, Bfinished_7, Bfinished_11, Bfinished_12, Bfinished_13, Bfinished_17, Bfinished_37, Bfinished_43, Bfinished_45, Bfinished_85, Bfinished_94, Bfinished_118, Bfinished_120, Bfinished_137, Bfinished_152, Bfinished_157, Bfinished_179, Bfinished_184, Bfinished_206, Bfinished_211, Bfinished_220, Bfinished_225, Bfinished_232, Bfinished_234, Bfinished_260, Bfinished_269, Bfinished_271, Bfinished_293, Bfinished_299, Bfinished_332, Bfinished_351, Bfinished_374, Bfinished_378, Bfinished_379, Bfinished_383, oi_0, oi_1, oi_2, oi_24, oi_25, oi_28, oi_3, oi_30, oi_31, oi_36, oi_4, oi_42, oi_45, oi_5, oi_59, oi_6, oi_7, oi_8, Pu_cant, Pj_condition, Pu_emit, Pj_enter, Pj_isRow, Pj_isWord, Pu_leave, Pj_take, Pj_want]; try dsimp only
                              try simp only [hR106.e2, hR106.e14, hR106.e15, hR106.e17, hR106.e18, hR106.e36, hR106.e42, hR106.e49, hR106.e62, hR106.a3, hR106.a6, hR106.a51, hR106.a19, hR106.a63, hR106.a64, hR106.hp, ho]
                              intro p111 q111
                              try simp only [hR106.e2, hR106.e14, hR106.e15, hR106.e17, hR106.e18, hR106.e36, hR106.e42, hR106.e49, hR106.e62, hR106.a3, hR106.a6, hR106.a51, hR106.a19, hR106.a63, hR106.a64, hR106.hp, ho]
                              refine ⟨⟨trivial, trivial⟩, fun w112 τ112 w112' τ112' hq112 => ?_⟩
                              obtain ⟨⟨rfl, hE112⟩, rfl, hF112⟩ := hq112
                              have hR112 : Rj 1 τ112 τ112' := Rj.em (by (repeat (first | exact hR106 | refine Rj.i ?_ rfl | refine Rj.a ?_ rfl | refine Rj.m ?_ | refine Rj.s ?_ (by decide) | refine Rj.o1 ?_ (by first | lia | (dsimp only [Nat.beq, gI_sI, gI_sL, gI_sA, gI_sM, gL_sI, gL_sL, gL_sA, gL_sM, aI_sI, aI_sL, aI_sA, aI_sM, aL_sI, aL_sL, aL_sA, aL_sM]; lia)) | refine Rj.o2 ?_ | refine Rj.f1 ?_ (by first | lia | (dsimp only [Nat.beq, gI_sI, gI_sL, gI_sA, gI_sM, gL_sI, gL_sL, gL_sA, gL_sM, aI_sI, aI_sL, aI_sA, aI_sM, aL_sI, aL_sL, aL_sA, aL_sM]; lia)) | refine Rj.f2 ?_ | refine Rj.fs ?_))) hE112 hF112 (by first | exact fun _ => rfl | exact fun q => absurd q (by decide))
                              have hp112 := hE112.1 14 (by decide)
                              have ho112 := hE112.1 29 (by decide)
                              have hh112 := hE112.1 62 (by decide)
                              have hg112 := hE112.1 49 (by decide)
                              have hw112 := hE112.1 34 (by decide)
                              have hv112 := hF112.1 34 (by decide)
                              have ht112 := hE112.2.2.2.2.1 3 (by decide)
                              try dsimp only [Nat.beq, gI_sI, gI_sL, gI_sA, gI_sM, gL_sI, gL_sL, gL_sA, gL_sM, aI_sI, aI_sL, aI_sA, aI_sM, aL_sI, aL_sL, aL_sA, aL_sM] at hp112
                              try dsimp only [Nat.beq, gI_sI, gI_sL, gI_sA, gI_sM, gL_sI, gL_sL, gL_sA, gL_sM, aI_sI, aI_sL, aI_sA, aI_sM, aL_sI, aL_sL, aL_sA, aL_sM] at ho112
                              try dsimp only [Nat.beq, gI_sI, gI_sL, gI_sA, gI_sM, gL_sI, gL_sL, gL_sA, gL_sM, aI_sI, aI_sL, aI_sA, aI_sM, aL_sI, aL_sL, aL_sA, aL_sM] at hh112
                              try dsimp only [Nat.beq, gI_sI, gI_sL, gI_sA, gI_sM, gL_sI, gL_sL, gL_sA, gL_sM, aI_sI, aI_sL, aI_sA, aI_sM, aL_sI, aL_sL, aL_sA, aL_sM] at hg112
                              try dsimp only [Nat.beq, gI_sI, gI_sL, gI_sA, gI_sM, gL_sI, gL_sL, gL_sA, gL_sM, aI_sI, aI_sL, aI_sA, aI_sM, aL_sI, aL_sL, aL_sA, aL_sM] at hw112
                              try dsimp only [Nat.beq, gI_sI, gI_sL, gI_sA, gI_sM, gL_sI, gL_sL, gL_sA, gL_sM, aI_sI, aI_sL, aI_sA, aI_sM, aL_sI, aL_sL, aL_sA, aL_sM] at hv112
                              try dsimp only [Nat.beq, gI_sI, gI_sL, gI_sA, gI_sM, gL_sI, gL_sL, gL_sA, gL_sM, aI_sI, aI_sL, aI_sA, aI_sM, aL_sI, aL_sL, aL_sA, aL_sM] at ht112
                              have hz112 := congrFun ht112 (gI τ112 14).toNatClampNeg
                              dsimp only [Option.toList, List.cons_append, List.nil_append, Nat.beq, gI_sI, gI_sL, gI_sA, gI_sM, gL_sI, gL_sL, gL_sA, gL_sM, aI_sI, aI_sL, aI_sA, aI_sM, aL_sI, aL_sL, aL_sA, aL_sM]
                              try simp only [hR112.e2, hR112.e14, hR112.e15, hR112.e17, hR112.e18, hR112.e36, hR112.e42, hR112.e49, hR112.e62, hR112.a3, hR112.a6, hR112.a51, hR112.a19, hR112.a63, hR112.a64, hR112.hp, ho, hR106.e18]
                              intro p113 q113
                              try simp only [hR112.e2, hR112.e14, hR112.e15, hR112.e17, hR112.e18, hR112.e36, hR112.e42, hR112.e49, hR112.e62, hR112.a3, hR112.a6, hR112.a51, hR112.a19, hR112.a63, hR112.a64, hR112.hp, ho, hR106.e18]
                              refine ⟨(by (repeat (first | exact hR112 | refine Rj.i ?_ rfl | refine Rj.a ?_ rfl | refine Rj.m ?_ | refine Rj.s ?_ (by decide) | refine Rj.o1 ?_ (by first | lia | (dsimp only [Nat.beq, gI_sI, gI_sL, gI_sA, gI_sM, gL_sI, gL_sL, gL_sA, gL_sM, aI_sI, aI_sL, aI_sA, aI_sM, aL_sI, aL_sL, aL_sA, aL_sM]; lia)) | refine Rj.o2 ?_ | refine Rj.f1 ?_ (by first | lia | (dsimp only [Nat.beq, gI_sI, gI_sL, gI_sA, gI_sM, gL_sI, gL_sL, gL_sA, gL_sM, aI_sI, aI_sL, aI_sA, aI_sM, aL_sI, aL_sL, aL_sA, aL_sM]; lia)) | refine Rj.f2 ?_ | refine Rj.fs ?_))), fun w114 τ114 w114' τ114' hq114 => ?_⟩
                              obtain ⟨b114, rfl, rfl, hb114⟩ := hq114
                              rcases hb114 with rfl | ⟨rfl, hR114, hk114⟩
                              · dsimp only [Option.toList, List.cons_append, List.nil_append, Nat.beq, gI_sI, gI_sL, gI_sA, gI_sM, gL_sI, gL_sL, gL_sA, gL_sM, aI_sI, aI_sL, aI_sA, aI_sM, aL_sI, aL_sL, aL_sA, aL_sM]
                                try simp only [hR112.e2, hR112.e14, hR112.e15, hR112.e17, hR112.e18, hR112.e36, hR112.e42, hR112.e49, hR112.e62, hR112.a3, hR112.a6, hR112.a51, hR112.a19, hR112.a63, hR112.a64, hR112.hp, ho, hR106.e18]
                                refine ⟨fun h115 => ⟨(by exact h115), ?_⟩, fun h115 => absurd h115 (by decide)⟩
                                clear h115
                                refine hB _ _ _ _ _ _ _ _ (fun m116 hm116 => ?_)
                                dsimp only [jgo, jwp, jst, jct, rfd, Bfinished, Nat.beq, lv_args, rlk, rs1, rs2, rdl, rky, rcd, rno, rsw, Value.category, List.filter, List.take, List.drop, List.reverse, List.reverseAux, List.cons_append, List.nil_append, Option.toList, Int.toNat, Int.reduceToNat, if_pos, if_neg, reduceIte, ↓reduceIte, Nat.reduceAdd, Nat.reduceEqDiff, Nat.reduceBEq, beq_self_eq_true, Bool.not_true, Bool.not_false, Bool.and_true, Bool.and_false, Bool.true_and, Bool.false_and, gI_sI, gI_sL, gI_sA, gI_sM, gL_sI, gL_sL, gL_sA, gL_sM, aI_sI, aI_sL, aI_sA, aI_sM, aL_sI, aL_sL, aL_sA, aL_sM, Bfinished_0, Bfinished_7, Bfinished_11, Bfinished_12, Bfinished_13, Bfinished_17, Bfinished_37, Bfinished_43, Bfinished_45, Bfinished_85, Bfinished_94, Bfinished_118, Bfinished_120, Bfinished_137, Bfinished_152, Bfinished_157, Bfinished_179, Bfinished_184, Bfinished_206, Bfinished_211, Bfinished_220, Bfinished_225, Bfinished_232, Bfinished_234, Bfinished_260, Bfinished_269, Bfinished_271, Bfinished_293, Bfinished_299, Bfinished_332, Bfinished_351, Bfinished_374, Bfinished_378, Bfinished_379, Bfinished_383, oi_0, oi_1, oi_2, oi_24, oi_25, oi_28, oi_3, oi_30, oi_31, oi_36, oi_4, oi_42, oi_45, oi_5, oi_59, oi_6, oi_7, oi_8, Pu_cant, Pj_condition, Pu_emit, Pj_enter, Pj_isRow, Pj_isWord, Pu_leave, Pj_take, Pj_want]; try dsimp only
                                try simp only [hR112.e2, hR112.e14, hR112.e15, hR112.e17, hR112.e18, hR112.e36, hR112.e42, hR112.e49, hR112.e62, hR112.a3, hR112.a6, hR112.a51, hR112.a19, hR112.a63, hR112.a64, hR112.hp, ho, hR106.e18]
                                unfold Qj_finished
                                try dsimp only
                                exact ⟨_, rfl, rfl, Or.inl rfl⟩
                              · dsimp only [Option.toList, List.cons_append, List.nil_append, Nat.beq, gI_sI, gI_sL, gI_sA, gI_sM, gL_sI, gL_sL, gL_sA, gL_sM, aI_sI, aI_sL, aI_sA, aI_sM, aL_sI, aL_sL, aL_sA, aL_sM]
                                have hh114 := hk114.1 62 rfl
                                have hg114 := hk114.1 49 rfl
                                try dsimp only [Nat.beq, gI_sI, gI_sL, gI_sA, gI_sM, gL_sI, gL_sL, gL_sA, gL_sM, aI_sI, aI_sL, aI_sA, aI_sM, aL_sI, aL_sL, aL_sA, aL_sM] at hh114
                                try dsimp only [Nat.beq, gI_sI, gI_sL, gI_sA, gI_sM, gL_sI, gL_sL, gL_sA, gL_sM, aI_sI, aI_sL, aI_sA, aI_sM, aL_sI, aL_sL, aL_sA, aL_sM] at hg114
                                try simp only [hR114.e2, hR114.e14, hR114.e15, hR114.e17, hR114.e18, hR114.e36, hR114.e42, hR114.e49, hR114.e62, hR114.a3, hR114.a6, hR114.a51, hR114.a19, hR114.a63, hR114.a64, hR114.hp, ho, hR106.e18]
                                refine ⟨fun h117 => absurd h117 (by decide), fun h117 => ⟨(by exact h117), ?_⟩⟩
                                clear h117
                                refine hB _ _ _ _ _ _ _ _ (fun m118 hm118 => ?_)
                                dsimp only [jgo, jwp, jst, jct, rfd, Bfinished, Nat.beq, lv_args, rlk, rs1, rs2, rdl, rky, rcd, rno, rsw, Value.category, List.filter, List.take, List.drop, List.reverse, List.reverseAux, List.cons_append, List.nil_append, Option.toList, Int.toNat, Int.reduceToNat, if_pos, if_neg, reduceIte, ↓reduceIte, Nat.reduceAdd, Nat.reduceEqDiff, Nat.reduceBEq, beq_self_eq_true, Bool.not_true, Bool.not_false, Bool.and_true, Bool.and_false, Bool.true_and, Bool.false_and, gI_sI, gI_sL, gI_sA, gI_sM, gL_sI, gL_sL, gL_sA, gL_sM, aI_sI, aI_sL, aI_sA, aI_sM, aL_sI, aL_sL, aL_sA, aL_sM, Bfinished_0, Bfinished_7, Bfinished_11, Bfinished_12, Bfinished_13, Bfinished_17, Bfinished_37, Bfinished_43, Bfinished_45, Bfinished_85, Bfinished_94, Bfinished_118, Bfinished_120, Bfinished_137, Bfinished_152, Bfinished_157, Bfinished_179, Bfinished_184, Bfinished_206, Bfinished_211, Bfinished_220, Bfinished_225, Bfinished_232, Bfinished_234, Bfinished_260, Bfinished_269, Bfinished_271, Bfinished_293, Bfinished_299, Bfinished_332, Bfinished_351, Bfinished_374, Bfinished_378, Bfinished_379, Bfinished_383, oi_0, oi_1, oi_2, oi_24, oi_25, oi_28, oi_3, oi_30, oi_31, oi_36, oi_4, oi_42, oi_45, oi_5, oi_59, oi_6, oi_7, oi_8, Pu_cant, Pj_condition, Pu_emit, Pj_enter, Pj_isRow, Pj_isWord, Pu_leave, Pj_take, Pj_want]; try dsimp only
                                try simp only [hR114.e2, hR114.e14, hR114.e15, hR114.e17, hR114.e18, hR114.e36, hR114.e42, hR114.e49, hR114.e62, hR114.a3, hR114.a6, hR114.a51, hR114.a19, hR114.a63, hR114.a64, hR114.hp, ho, hR106.e18]
                                refine ⟨⟨(Rj.w (md := 1) (by (repeat (first | exact hR114 | refine Rj.i ?_ rfl | refine Rj.a ?_ rfl | refine Rj.m ?_ | refine Rj.s ?_ (by decide) | refine Rj.o1 ?_ (by first | lia | (dsimp only [Nat.beq, gI_sI, gI_sL, gI_sA, gI_sM, gL_sI, gL_sL, gL_sA, gL_sM, aI_sI, aI_sL, aI_sA, aI_sM, aL_sI, aL_sL, aL_sA, aL_sM]; lia)) | refine Rj.o2 ?_ | refine Rj.f1 ?_ (by first | lia | (dsimp only [Nat.beq, gI_sI, gI_sL, gI_sA, gI_sM, gL_sI, gL_sL, gL_sA, gL_sM, aI_sI, aI_sL, aI_sA, aI_sM, aL_sI, aL_sL, aL_sA, aL_sM]; lia)) | refine Rj.f2 ?_ | refine Rj.fs ?_)))), (by first | exact True.intro | rfl)⟩, fun w119 τ119 w119' τ119' hq119 => ?_⟩
                                obtain ⟨b119, rfl, rfl, hb119⟩ := hq119
                                rcases hb119 with rfl | ⟨rfl, hr119, hk119, hx119⟩
                                · dsimp only [Option.toList, List.cons_append, List.nil_append, Nat.beq, gI_sI, gI_sL, gI_sA, gI_sM, gL_sI, gL_sL, gL_sA, gL_sM, aI_sI, aI_sL, aI_sA, aI_sM, aL_sI, aL_sL, aL_sA, aL_sM]
                                  try simp only [hR114.e2, hR114.e14, hR114.e15, hR114.e17, hR114.e18, hR114.e36, hR114.e42, hR114.e49, hR114.e62, hR114.a3, hR114.a6, hR114.a51, hR114.a19, hR114.a63, hR114.a64, hR114.hp, ho, hR106.e18]
                                  refine ⟨fun h120 => absurd h120 (by decide), fun h120 => ⟨(by exact h120), ?_⟩⟩
                                  clear h120
                                  refine hB _ _ _ _ _ _ _ _ (fun m121 hm121 => ?_)
                                  dsimp only [jgo, jwp, jst, jct, rfd, Bfinished, Nat.beq, lv_args, rlk, rs1, rs2, rdl, rky, rcd, rno, rsw, Value.category, List.filter, List.take, List.drop, List.reverse, List.reverseAux, List.cons_append, List.nil_append, Option.toList, Int.toNat, Int.reduceToNat, if_pos, if_neg, reduceIte, ↓reduceIte, Nat.reduceAdd, Nat.reduceEqDiff, Nat.reduceBEq, beq_self_eq_true, Bool.not_true, Bool.not_false, Bool.and_true, Bool.and_false, Bool.true_and, Bool.false_and, gI_sI, gI_sL, gI_sA, gI_sM, gL_sI, gL_sL, gL_sA, gL_sM, aI_sI, aI_sL, aI_sA, aI_sM, aL_sI, aL_sL, aL_sA, aL_sM, Bfinished_0, Bfinished_7, Bfinished_11, Bfinished_12, Bfinished_13, Bfinished_17, Bfinished_37, Bfinished_43, Bfinished_45, Bfinished_85, Bfinished_94, Bfinished_118, Bfinished_120, Bfinished_137, Bfinished_152, Bfinished_157, Bfinished_179, Bfinished_184, Bfinished_206, Bfinished_211, Bfinished_220, Bfinished_225, Bfinished_232, Bfinished_234, Bfinished_260, Bfinished_269, Bfinished_271, Bfinished_293, Bfinished_299, Bfinished_332, Bfinished_351, Bfinished_374, Bfinished_378, Bfinished_379, Bfinished_383, oi_0, oi_1, oi_2, oi_24, oi_25, oi_28, oi_3, oi_30, oi_31, oi_36, oi_4, oi_42, oi_45, oi_5, oi_59, oi_6, oi_7, oi_8, Pu_cant, Pj_condition, Pu_emit, Pj_enter, Pj_isRow, Pj_isWord, Pu_leave, Pj_take, Pj_want]; try dsimp only
                                  try simp only [hR114.e2, hR114.e14, hR114.e15, hR114.e17, hR114.e18, hR114.e36, hR114.e42, hR114.e49, hR114.e62, hR114.a3, hR114.a6, hR114.a51, hR114.a19, hR114.a63, hR114.a64, hR114.hp, ho, hR106.e18]
                                  unfold Qj_finished
                                  try dsimp only
                                  exact ⟨_, rfl, rfl, Or.inl rfl⟩
                                · dsimp only [Option.toList, List.cons_append, List.nil_append, Nat.beq, gI_sI, gI_sL, gI_sA, gI_sM, gL_sI, gL_sL, gL_sA, gL_sM, aI_sI, aI_sL, aI_sA, aI_sM, aL_sI, aL_sL, aL_sA, aL_sM]
                                  have hR119 : Rj 1 τ119 τ119' := hr119 _ (by (repeat (first | exact hR114 | refine Rj.i ?_ rfl | refine Rj.a ?_ rfl | refine Rj.m ?_ | refine Rj.s ?_ (by decide) | refine Rj.o1 ?_ (by first | lia | (dsimp only [Nat.beq, gI_sI, gI_sL, gI_sA, gI_sM, gL_sI, gL_sL, gL_sA, gL_sM, aI_sI, aI_sL, aI_sA, aI_sM, aL_sI, aL_sL, aL_sA, aL_sM]; lia)) | refine Rj.o2 ?_ | refine Rj.f1 ?_ (by first | lia | (dsimp only [Nat.beq, gI_sI, gI_sL, gI_sA, gI_sM, gL_sI, gL_sL, gL_sA, gL_sM, aI_sI, aI_sL, aI_sA, aI_sM, aL_sI, aL_sL, aL_sA, aL_sM]; lia)) | refine Rj.f2 ?_ | refine Rj.fs ?_)))
                                  have ht119 := hk119.2 3 rfl
                                  have hc119 := hk119.1 2 rfl
                                  try dsimp only [Nat.beq, gI_sI, gI_sL, gI_sA, gI_sM, gL_sI, gL_sL, gL_sA, gL_sM, aI_sI, aI_sL, aI_sA, aI_sM, aL_sI, aL_sL, aL_sA, aL_sM] at hx119
                                  try dsimp only [Nat.beq, gI_sI, gI_sL, gI_sA, gI_sM, gL_sI, gL_sL, gL_sA, gL_sM, aI_sI, aI_sL, aI_sA, aI_sM, aL_sI, aL_sL, aL_sA, aL_sM] at ht119
                                  try dsimp only [Nat.beq, gI_sI, gI_sL, gI_sA, gI_sM, gL_sI, gL_sL, gL_sA, gL_sM, aI_sI, aI_sL, aI_sA, aI_sM, aL_sI, aL_sL, aL_sA, aL_sM] at hc119
                                  have hh119 := hk119.1 62 rfl
                                  have hg119 := hk119.1 49 rfl
                                  try dsimp only [Nat.beq, gI_sI, gI_sL, gI_sA, gI_sM, gL_sI, gL_sL, gL_sA, gL_sM, aI_sI, aI_sL, aI_sA, aI_sM, aL_sI, aL_sL, aL_sA, aL_sM] at hh119
                                  try dsimp only [Nat.beq, gI_sI, gI_sL, gI_sA, gI_sM, gL_sI, gL_sL, gL_sA, gL_sM, aI_sI, aI_sL, aI_sA, aI_sM, aL_sI, aL_sL, aL_sA, aL_sM] at hg119
                                  have hz119 := congrFun ht119 (gI τ119 14).toNatClampNeg
                                  try simp only [hR119.e2, hR119.e14, hR119.e15, hR119.e17, hR119.e18, hR119.e36, hR119.e42, hR119.e49, hR119.e62, hR119.a3, hR119.a6, hR119.a51, hR119.a19, hR119.a63, hR119.a64, hR119.hp, ho, hR106.e18]
                                  refine ⟨fun h122 => ⟨(by exact h122), ?_⟩, fun h122 => absurd h122 (by decide)⟩
                                  clear h122
                                  refine hB _ _ _ _ _ _ _ _ (fun m123 hm123 => ?_)
                                  dsimp only [jgo, jwp, jst, jct, rfd, Bfinished, Nat.beq, lv_args, rlk, rs1, rs2, rdl, rky, rcd, rno, rsw, Value.category, List.filter, List.take, List.drop, List.reverse, List.reverseAux, List.cons_append, List.nil_append, Option.toList, Int.toNat, Int.reduceToNat, if_pos, if_neg, reduceIte, ↓reduceIte, Nat.reduceAdd, Nat.reduceEqDiff, Nat.reduceBEq, beq_self_eq_true, Bool.not_true, Bool.not_false, Bool.and_true, Bool.and_false, Bool.true_and, Bool.false_and, gI_sI, gI_sL, gI_sA, gI_sM, gL_sI, gL_sL, gL_sA, gL_sM, aI_sI, aI_sL, aI_sA, aI_sM, aL_sI, aL_sL, aL_sA, aL_sM, Bfinished_0, Bfinished_7, Bfinished_11, Bfinished_12, Bfinished_13, Bfinished_17, Bfinished_37, Bfinished_43, Bfinished_45, Bfinished_85, Bfinished_94, Bfinished_118, Bfinished_120, Bfinished_137, Bfinished_152, Bfinished_157, Bfinished_179, Bfinished_184, Bfinished_206, Bfinished_211, Bfinished_220, Bfinished_225, Bfinished_232, Bfinished_234, Bfinished_260, Bfinished_269, Bfinished_271, Bfinished_293, Bfinished_299, Bfinished_332, Bfinished_351, Bfinished_374, Bfinished_378, Bfinished_379, Bfinished_383, oi_0, oi_1, oi_2, oi_24, oi_25, oi_28, oi_3, oi_30, oi_31, oi_36, oi_4, oi_42, oi_45, oi_5, oi_59, oi_6, oi_7, oi_8, Pu_cant, Pj_condition, Pu_emit, Pj_enter, Pj_isRow, Pj_isWord, Pu_leave, Pj_take, Pj_want]; try dsimp only
                                  try simp only [hR119.e2, hR119.e14, hR119.e15, hR119.e17, hR119.e18, hR119.e36, hR119.e42, hR119.e49, hR119.e62, hR119.a3, hR119.a6, hR119.a51, hR119.a19, hR119.a63, hR119.a64, hR119.hp, ho, hR106.e18]
                                  intro p124 q124
                                  try simp only [hR119.e2, hR119.e14, hR119.e15, hR119.e17, hR119.e18, hR119.e36, hR119.e42, hR119.e49, hR119.e62, hR119.a3, hR119.a6, hR119.a51, hR119.a19, hR119.a63, hR119.a64, hR119.hp, ho, hR106.e18]
                                  refine ⟨⟨trivial, trivial⟩, fun w125 τ125 w125' τ125' hq125 => ?_⟩
                                  obtain ⟨⟨rfl, hE125⟩, rfl, hF125⟩ := hq125
                                  have hR125 : Rj 1 τ125 τ125' := Rj.em (by (repeat (first | exact hR119 | refine Rj.i ?_ rfl | refine Rj.a ?_ rfl | refine Rj.m ?_ | refine Rj.s ?_ (by decide) | refine Rj.o1 ?_ (by first | lia | (dsimp only [Nat.beq, gI_sI, gI_sL, gI_sA, gI_sM, gL_sI, gL_sL, gL_sA, gL_sM, aI_sI, aI_sL, aI_sA, aI_sM, aL_sI, aL_sL, aL_sA, aL_sM]; lia)) | refine Rj.o2 ?_ | refine Rj.f1 ?_ (by first | lia | (dsimp only [Nat.beq, gI_sI, gI_sL, gI_sA, gI_sM, gL_sI, gL_sL, gL_sA, gL_sM, aI_sI, aI_sL, aI_sA, aI_sM, aL_sI, aL_sL, aL_sA, aL_sM]; lia)) | refine Rj.f2 ?_ | refine Rj.fs ?_))) hE125 hF125 (by first | exact fun _ => rfl | exact fun q => absurd q (by decide))
                                  have hp125 := hE125.1 14 (by decide)
                                  have ho125 := hE125.1 29 (by decide)
                                  have hh125 := hE125.1 62 (by decide)
                                  have hg125 := hE125.1 49 (by decide)
                                  have hw125 := hE125.1 34 (by decide)
                                  have hv125 := hF125.1 34 (by decide)
                                  have ht125 := hE125.2.2.2.2.1 3 (by decide)
                                  try dsimp only [Nat.beq, gI_sI, gI_sL, gI_sA, gI_sM, gL_sI, gL_sL, gL_sA, gL_sM, aI_sI, aI_sL, aI_sA, aI_sM, aL_sI, aL_sL, aL_sA, aL_sM] at hp125
                                  try dsimp only [Nat.beq, gI_sI, gI_sL, gI_sA, gI_sM, gL_sI, gL_sL, gL_sA, gL_sM, aI_sI, aI_sL, aI_sA, aI_sM, aL_sI, aL_sL, aL_sA, aL_sM] at ho125
                                  try dsimp only [Nat.beq, gI_sI, gI_sL, gI_sA, gI_sM, gL_sI, gL_sL, gL_sA, gL_sM, aI_sI, aI_sL, aI_sA, aI_sM, aL_sI, aL_sL, aL_sA, aL_sM] at hh125
                                  try dsimp only [Nat.beq, gI_sI, gI_sL, gI_sA, gI_sM, gL_sI, gL_sL, gL_sA, gL_sM, aI_sI, aI_sL, aI_sA, aI_sM, aL_sI, aL_sL, aL_sA, aL_sM] at hg125
                                  try dsimp only [Nat.beq, gI_sI, gI_sL, gI_sA, gI_sM, gL_sI, gL_sL, gL_sA, gL_sM, aI_sI, aI_sL, aI_sA, aI_sM, aL_sI, aL_sL, aL_sA, aL_sM] at hw125
                                  try dsimp only [Nat.beq, gI_sI, gI_sL, gI_sA, gI_sM, gL_sI, gL_sL, gL_sA, gL_sM, aI_sI, aI_sL, aI_sA, aI_sM, aL_sI, aL_sL, aL_sA, aL_sM] at hv125
                                  try dsimp only [Nat.beq, gI_sI, gI_sL, gI_sA, gI_sM, gL_sI, gL_sL, gL_sA, gL_sM, aI_sI, aI_sL, aI_sA, aI_sM, aL_sI, aL_sL, aL_sA, aL_sM] at ht125
                                  have hz125 := congrFun ht125 (gI τ125 14).toNatClampNeg
                                  dsimp only [Option.toList, List.cons_append, List.nil_append, Nat.beq, gI_sI, gI_sL, gI_sA, gI_sM, gL_sI, gL_sL, gL_sA, gL_sM, aI_sI, aI_sL, aI_sA, aI_sM, aL_sI, aL_sL, aL_sA, aL_sM]
                                  try simp only [hR125.e2, hR125.e14, hR125.e15, hR125.e17, hR125.e18, hR125.e36, hR125.e42, hR125.e49, hR125.e62, hR125.a3, hR125.a6, hR125.a51, hR125.a19, hR125.a63, hR125.a64, hR125.hp, ho, hR106.e18, hR119.e18]
                                  intro p126 q126
                                  try simp only [hR125.e2, hR125.e14, hR125.e15, hR125.e17, hR125.e18, hR125.e36, hR125.e42, hR125.e49, hR125.e62, hR125.a3, hR125.a6, hR125.a51, hR125.a19, hR125.a63, hR125.a64, hR125.hp, ho, hR106.e18, hR119.e18]
                                  exact hW _ 351 [(0, .ref 1000), (4, .int (aI X 65 (gI X 62 - 1).toNatClampNeg))] [(0, .ref 1000), (4, .int (aI Y 65 (gI X 62 - 1).toNatClampNeg))] _ _ _ _ _ _ (by simp [rdl, rky]) (by simp [rdl, rky]) (t351 _ (by omega) _ _ _ _ (by (repeat (first | exact hR125 | refine Rj.i ?_ rfl | refine Rj.a ?_ rfl | refine Rj.m ?_ | refine Rj.s ?_ (by decide) | refine Rj.o1 ?_ (by first | lia | (dsimp only [Nat.beq, gI_sI, gI_sL, gI_sA, gI_sM, gL_sI, gL_sL, gL_sA, gL_sM, aI_sI, aI_sL, aI_sA, aI_sM, aL_sI, aL_sL, aL_sA, aL_sM]; lia)) | refine Rj.o2 ?_ | refine Rj.f1 ?_ (by first | lia | (dsimp only [Nat.beq, gI_sI, gI_sL, gI_sA, gI_sM, gL_sI, gL_sL, gL_sA, gL_sM, aI_sI, aI_sL, aI_sA, aI_sM, aL_sI, aL_sL, aL_sA, aL_sM]; lia)) | refine Rj.f2 ?_ | refine Rj.fs ?_))))
                      · refine hB _ _ _ _ _ _ _ _ (fun m127 hm127 => ?_)
                        dsimp only [jgo, jwp, jst, jct, rfd, Bfinished, Nat.beq, lv_args, rlk, rs1, rs2, rdl, rky, rcd, rno, rsw, Value.category, List.filter, List.take, List.drop, List.reverse, List.reverseAux, List.cons_append, List.nil_append, Option.toList, Int.toNat, Int.reduceToNat, if_pos, if_neg, reduceIte, ↓reduceIte, Nat.reduceAdd, Nat.reduceEqDiff, Nat.reduceBEq, beq_self_eq_true, Bool.not_true, Bool.not_false, Bool.and_true, Bool.and_false, Bool.true_and, Bool.false_and, gI_sI, gI_sL, gI_sA, gI_sM, gL_sI, gL_sL, gL_sA, gL_sM, aI_sI, aI_sL, aI_sA, aI_sM, aL_sI, aL_sL, aL_sA, aL_sM, Bfinished_0, Bfinished_7, Bfinished_11, Bfinished_12, Bfinished_13, Bfinished_17, Bfinished_37, Bfinished_43, Bfinished_45, Bfinished_85, Bfinished_94, Bfinished_118, Bfinished_120, Bfinished_137, Bfinished_152, Bfinished_157, Bfinished_179, Bfinished_184, Bfinished_206, Bfinished_211, Bfinished_220, Bfinished_225, Bfinished_232, Bfinished_234, Bfinished_260, Bfinished_269, Bfinished_271, Bfinished_293, Bfinished_299, Bfinished_332, Bfinished_351, Bfinished_374, Bfinished_378, Bfinished_379, Bfinished_383, oi_0, oi_1, oi_2, oi_24, oi_25, oi_28, oi_3, oi_30, oi_31, oi_36, oi_4, oi_42, oi_45, oi_5, oi_59, oi_6, oi_7, oi_8, Pu_cant, Pj_condition, Pu_emit, Pj_enter, Pj_isRow, Pj_isWord, Pu_leave, Pj_take, Pj_want]; try dsimp only
                        try simp only [hR.e2, hR.e14, hR.e15, hR.e17, hR.e18, hR.e36, hR.e42, hR.e49, hR.e62, hR.a3, hR.a6, hR.a51, hR.a19, hR.a63, hR.a64, hR.hp, ho]
                        intro p128 q128
                        try simp only [hR.e2, hR.e14, hR.e15, hR.e17, hR.e18, hR.e36, hR.e42, hR.e49, hR.e62, hR.a3, hR.a6, hR.a51, hR.a19, hR.a63, hR.a64, hR.hp, ho]
                        refine ⟨⟨trivial, trivial⟩, fun w129 τ129 w129' τ129' hq129 => ?_⟩
                        obtain ⟨⟨rfl, hE129⟩, rfl, hF129⟩ := hq129
                        have hR129 : Rj 1 τ129 τ129' := Rj.em (by (repeat (first | exact hR | refine Rj.i ?_ rfl | refine Rj.a ?_ rfl | refine Rj.m ?_ | refine Rj.s ?_ (by decide) | refine Rj.o1 ?_ (by first | lia | (dsimp only [Nat.beq, gI_sI, gI_sL, gI_sA, gI_sM, gL_sI, gL_sL, gL_sA, gL_sM, aI_sI, aI_sL, aI_sA, aI_sM, aL_sI, aL_sL, aL_sA, aL_sM]; lia)) | refine Rj.o2 ?_ | refine Rj.f1 ?_ (by first | lia | (dsimp only [Nat.beq, gI_sI, gI_sL, gI_sA, gI_sM, gL_sI, gL_sL, gL_sA, gL_sM, aI_sI, aI_sL, aI_sA, aI_sM, aL_sI, aL_sL, aL_sA, aL_sM]; lia)) | refine Rj.f2 ?_ | refine Rj.fs ?_))) hE129 hF129 (by first | exact fun _ => rfl | exact fun q => absurd q (by decide))
                        have hp129 := hE129.1 14 (by decide)
                        have ho129 := hE129.1 29 (by decide)
                        have hh129 := hE129.1 62 (by decide)
                        have hg129 := hE129.1 49 (by decide)
                        have hw129 := hE129.1 34 (by decide)
                        have hv129 := hF129.1 34 (by decide)
                        have ht129 := hE129.2.2.2.2.1 3 (by decide)
                        try dsimp only [Nat.beq, gI_sI, gI_sL, gI_sA, gI_sM, gL_sI, gL_sL, gL_sA, gL_sM, aI_sI, aI_sL, aI_sA, aI_sM, aL_sI, aL_sL, aL_sA, aL_sM] at hp129
                        try dsimp only [Nat.beq, gI_sI, gI_sL, gI_sA, gI_sM, gL_sI, gL_sL, gL_sA, gL_sM, aI_sI, aI_sL, aI_sA, aI_sM, aL_sI, aL_sL, aL_sA, aL_sM] at ho129
                        try dsimp only [Nat.beq, gI_sI, gI_sL, gI_sA, gI_sM, gL_sI, gL_sL, gL_sA, gL_sM, aI_sI, aI_sL, aI_sA, aI_sM, aL_sI, aL_sL, aL_sA, aL_sM] at hh129
                        try dsimp only [Nat.beq, gI_sI, gI_sL, gI_sA, gI_sM, gL_sI, gL_sL, gL_sA, gL_sM, aI_sI, aI_sL, aI_sA, aI_sM, aL_sI, aL_sL, aL_sA, aL_sM] at hg129
                        try dsimp only [Nat.beq, gI_sI, gI_sL, gI_sA, gI_sM, gL_sI, gL_sL, gL_sA, gL_sM, aI_sI, aI_sL, aI_sA, aI_sM, aL_sI, aL_sL, aL_sA, aL_sM] at hw129
                        try dsimp only [Nat.beq, gI_sI, gI_sL, gI_sA, gI_sM, gL_sI, gL_sL, gL_sA, gL_sM, aI_sI, aI_sL, aI_sA, aI_sM, aL_sI, aL_sL, aL_sA, aL_sM] at hv129
                        try dsimp only [Nat.beq, gI_sI, gI_sL, gI_sA, gI_sM, gL_sI, gL_sL, gL_sA, gL_sM, aI_sI, aI_sL, aI_sA, aI_sM, aL_sI, aL_sL, aL_sA, aL_sM] at ht129
                        have hz129 := congrFun ht129 (gI τ129 14).toNatClampNeg
                        dsimp only [Option.toList, List.cons_append, List.nil_append, Nat.beq, gI_sI, gI_sL, gI_sA, gI_sM, gL_sI, gL_sL, gL_sA, gL_sM, aI_sI, aI_sL, aI_sA, aI_sM, aL_sI, aL_sL, aL_sA, aL_sM]
                        try simp only [hR129.e2, hR129.e14, hR129.e15, hR129.e17, hR129.e18, hR129.e36, hR129.e42, hR129.e49, hR129.e62, hR129.a3, hR129.a6, hR129.a51, hR129.a19, hR129.a63, hR129.a64, hR129.hp, ho, hR.e18]
                        intro p130 q130
                        try simp only [hR129.e2, hR129.e14, hR129.e15, hR129.e17, hR129.e18, hR129.e36, hR129.e42, hR129.e49, hR129.e62, hR129.a3, hR129.a6, hR129.a51, hR129.a19, hR129.a63, hR129.a64, hR129.hp, ho, hR.e18]
                        exact hW _ 351 [(0, .ref 1000), (4, .int (aI X 65 (gI X 62 - 1).toNatClampNeg))] [(0, .ref 1000), (4, .int (aI Y 65 (gI X 62 - 1).toNatClampNeg))] _ _ _ _ _ _ (by simp [rdl, rky]) (by simp [rdl, rky]) (t351 _ (by omega) _ _ _ _ (by (repeat (first | exact hR129 | refine Rj.i ?_ rfl | refine Rj.a ?_ rfl | refine Rj.m ?_ | refine Rj.s ?_ (by decide) | refine Rj.o1 ?_ (by first | lia | (dsimp only [Nat.beq, gI_sI, gI_sL, gI_sA, gI_sM, gL_sI, gL_sL, gL_sA, gL_sM, aI_sI, aI_sL, aI_sA, aI_sM, aL_sI, aL_sL, aL_sA, aL_sM]; lia)) | refine Rj.o2 ?_ | refine Rj.f1 ?_ (by first | lia | (dsimp only [Nat.beq, gI_sI, gI_sL, gI_sA, gI_sM, gL_sI, gL_sL, gL_sA, gL_sM, aI_sI, aI_sL, aI_sA, aI_sM, aL_sI, aL_sL, aL_sA, aL_sM]; lia)) | refine Rj.f2 ?_ | refine Rj.fs ?_))))
                    · refine hB _ _ _ _ _ _ _ _ (fun m131 hm131 => ?_)
                      dsimp only [jgo, jwp, jst, jct, rfd, Bfinished, Nat.beq, lv_args, rlk, rs1, rs2, rdl, rky, rcd, rno, rsw, Value.category, List.filter, List.take, List.drop, List.reverse, List.reverseAux, List.cons_append, List.nil_append, Option.toList, Int.toNat, Int.reduceToNat, if_pos, if_neg, reduceIte, ↓reduceIte, Nat.reduceAdd, Nat.reduceEqDiff, Nat.reduceBEq, beq_self_eq_true, Bool.not_true, Bool.not_false, Bool.and_true, Bool.and_false, Bool.true_and, Bool.false_and, gI_sI, gI_sL, gI_sA, gI_sM, gL_sI, gL_sL, gL_sA, gL_sM, aI_sI, aI_sL, aI_sA, aI_sM, aL_sI, aL_sL, aL_sA, aL_sM, Bfinished_0, Bfinished_7, Bfinished_11, Bfinished_12, Bfinished_13, Bfinished_17, Bfinished_37, Bfinished_43, Bfinished_45, Bfinished_85, Bfinished_94, Bfinished_118, Bfinished_120, Bfinished_137, Bfinished_152, Bfinished_157, Bfinished_179, Bfinished_184, Bfinished_206, Bfinished_211, Bfinished_220, Bfinished_225, Bfinished_232, Bfinished_234, Bfinished_260, Bfinished_269, Bfinished_271, Bfinished_293, Bfinished_299, Bfinished_332, Bfinished_351, Bfinished_374, Bfinished_378, Bfinished_379, Bfinished_383, oi_0, oi_1, oi_2, oi_24, oi_25, oi_28, oi_3, oi_30, oi_31, oi_36, oi_4, oi_42, oi_45, oi_5, oi_59, oi_6, oi_7, oi_8, Pu_cant, Pj_condition, Pu_emit, Pj_enter, Pj_isRow, Pj_isWord, Pu_leave, Pj_take, Pj_want]; try dsimp only
                      try simp only [hR.e2, hR.e14, hR.e15, hR.e17, hR.e18, hR.e36, hR.e42, hR.e49, hR.e62, hR.a3, hR.a6, hR.a51, hR.a19, hR.a63, hR.a64, hR.hp, ho]
                      intro p132 q132
                      try simp only [hR.e2, hR.e14, hR.e15, hR.e17, hR.e18, hR.e36, hR.e42, hR.e49, hR.e62, hR.a3, hR.a6, hR.a51, hR.a19, hR.a63, hR.a64, hR.hp, ho]
                      refine ⟨⟨trivial, trivial⟩, fun w133 τ133 w133' τ133' hq133 => ?_⟩
                      obtain ⟨⟨rfl, hE133⟩, rfl, hF133⟩ := hq133
                      have hR133 : Rj 1 τ133 τ133' := Rj.em (by (repeat (first | exact hR | refine Rj.i ?_ rfl | refine Rj.a ?_ rfl | refine Rj.m ?_ | refine Rj.s ?_ (by decide) | refine Rj.o1 ?_ (by first | lia | (dsimp only [Nat.beq, gI_sI, gI_sL, gI_sA, gI_sM, gL_sI, gL_sL, gL_sA, gL_sM, aI_sI, aI_sL, aI_sA, aI_sM, aL_sI, aL_sL, aL_sA, aL_sM]; lia)) | refine Rj.o2 ?_ | refine Rj.f1 ?_ (by first | lia | (dsimp only [Nat.beq, gI_sI, gI_sL, gI_sA, gI_sM, gL_sI, gL_sL, gL_sA, gL_sM, aI_sI, aI_sL, aI_sA, aI_sM, aL_sI, aL_sL, aL_sA, aL_sM]; lia)) | refine Rj.f2 ?_ | refine Rj.fs ?_))) hE133 hF133 (by first | exact fun _ => rfl | exact fun q => absurd q (by decide))
                      have hp133 := hE133.1 14 (by decide)
                      have ho133 := hE133.1 29 (by decide)
                      have hh133 := hE133.1 62 (by decide)
                      have hg133 := hE133.1 49 (by decide)
                      have hw133 := hE133.1 34 (by decide)
                      have hv133 := hF133.1 34 (by decide)
                      have ht133 := hE133.2.2.2.2.1 3 (by decide)
                      try dsimp only [Nat.beq, gI_sI, gI_sL, gI_sA, gI_sM, gL_sI, gL_sL, gL_sA, gL_sM, aI_sI, aI_sL, aI_sA, aI_sM, aL_sI, aL_sL, aL_sA, aL_sM] at hp133
                      try dsimp only [Nat.beq, gI_sI, gI_sL, gI_sA, gI_sM, gL_sI, gL_sL, gL_sA, gL_sM, aI_sI, aI_sL, aI_sA, aI_sM, aL_sI, aL_sL, aL_sA, aL_sM] at ho133
                      try dsimp only [Nat.beq, gI_sI, gI_sL, gI_sA, gI_sM, gL_sI, gL_sL, gL_sA, gL_sM, aI_sI, aI_sL, aI_sA, aI_sM, aL_sI, aL_sL, aL_sA, aL_sM] at hh133
                      try dsimp only [Nat.beq, gI_sI, gI_sL, gI_sA, gI_sM, gL_sI, gL_sL, gL_sA, gL_sM, aI_sI, aI_sL, aI_sA, aI_sM, aL_sI, aL_sL, aL_sA, aL_sM] at hg133
                      try dsimp only [Nat.beq, gI_sI, gI_sL, gI_sA, gI_sM, gL_sI, gL_sL, gL_sA, gL_sM, aI_sI, aI_sL, aI_sA, aI_sM, aL_sI, aL_sL, aL_sA, aL_sM] at hw133
                      try dsimp only [Nat.beq, gI_sI, gI_sL, gI_sA, gI_sM, gL_sI, gL_sL, gL_sA, gL_sM, aI_sI, aI_sL, aI_sA, aI_sM, aL_sI, aL_sL, aL_sA, aL_sM] at hv133
                      try dsimp only [Nat.beq, gI_sI, gI_sL, gI_sA, gI_sM, gL_sI, gL_sL, gL_sA, gL_sM, aI_sI, aI_sL, aI_sA, aI_sM, aL_sI, aL_sL, aL_sA, aL_sM] at ht133
                      have hz133 := congrFun ht133 (gI τ133 14).toNatClampNeg
                      dsimp only [Option.toList, List.cons_append, List.nil_append, Nat.beq, gI_sI, gI_sL, gI_sA, gI_sM, gL_sI, gL_sL, gL_sA, gL_sM, aI_sI, aI_sL, aI_sA, aI_sM, aL_sI, aL_sL, aL_sA, aL_sM]
                      try simp only [hR133.e2, hR133.e14, hR133.e15, hR133.e17, hR133.e18, hR133.e36, hR133.e42, hR133.e49, hR133.e62, hR133.a3, hR133.a6, hR133.a51, hR133.a19, hR133.a63, hR133.a64, hR133.hp, ho, hR.e18]
                      intro p134 q134
                      try simp only [hR133.e2, hR133.e14, hR133.e15, hR133.e17, hR133.e18, hR133.e36, hR133.e42, hR133.e49, hR133.e62, hR133.a3, hR133.a6, hR133.a51, hR133.a19, hR133.a63, hR133.a64, hR133.hp, ho, hR.e18]
                      exact hW _ 351 [(0, .ref 1000), (4, .int (aI X 65 (gI X 62 - 1).toNatClampNeg))] [(0, .ref 1000), (4, .int (aI Y 65 (gI X 62 - 1).toNatClampNeg))] _ _ _ _ _ _ (by simp [rdl, rky]) (by simp [rdl, rky]) (t351 _ (by omega) _ _ _ _ (by (repeat (first | exact hR133 | refine Rj.i ?_ rfl | refine Rj.a ?_ rfl | refine Rj.m ?_ | refine Rj.s ?_ (by decide) | refine Rj.o1 ?_ (by first | lia | (dsimp only [Nat.beq, gI_sI, gI_sL, gI_sA, gI_sM, gL_sI, gL_sL, gL_sA, gL_sM, aI_sI, aI_sL, aI_sA, aI_sM, aL_sI, aL_sL, aL_sA, aL_sM]; lia)) | refine Rj.o2 ?_ | refine Rj.f1 ?_ (by first | lia | (dsimp only [Nat.beq, gI_sI, gI_sL, gI_sA, gI_sM, gL_sI, gL_sL, gL_sA, gL_sM, aI_sI, aI_sL, aI_sA, aI_sM, aL_sI, aL_sL, aL_sA, aL_sM]; lia)) | refine Rj.f2 ?_ | refine Rj.fs ?_))))
                · dsimp only [Option.toList, List.cons_append, List.nil_append, Nat.beq, gI_sI, gI_sL, gI_sA, gI_sM, gL_sI, gL_sL, gL_sA, gL_sM, aI_sI, aI_sL, aI_sA, aI_sM, aL_sI, aL_sL, aL_sA, aL_sM]
                  try dsimp only [Nat.beq, gI_sI, gI_sL, gI_sA, gI_sM, gL_sI, gL_sL, gL_sA, gL_sM, aI_sI, aI_sL, aI_sA, aI_sM, aL_sI, aL_sL, aL_sA, aL_sM] at hf74
                  try simp only [hR.e2, hR.e14, hR.e15, hR.e17, hR.e18, hR.e36, hR.e42, hR.e49, hR.e62, hR.a3, hR.a6, hR.a51, hR.a19, hR.a63, hR.a64, hR.hp, ho]
                  refine ⟨fun h135 => absurd h135 (by decide), fun h135 => ⟨(by exact h135), ?_⟩⟩
                  clear h135
                  refine hB _ _ _ _ _ _ _ _ (fun m136 hm136 => ?_)
                  dsimp only [jgo, jwp, jst, jct, rfd, Bfinished, Nat.beq, lv_args, rlk, rs1, rs2, rdl, rky, rcd, rno, rsw, Value.category, List.filter, List.take, List.drop, List.reverse, List.reverseAux, List.cons_append, List.nil_append, Option.toList, Int.toNat, Int.reduceToNat, if_pos, if_neg, reduceIte, ↓reduceIte, Nat.reduceAdd, Nat.reduceEqDiff, Nat.reduceBEq, beq_self_eq_true, Bool.not_true, Bool.not_false, Bool.and_true, Bool.and_false, Bool.true_and, Bool.false_and, gI_sI, gI_sL, gI_sA, gI_sM, gL_sI, gL_sL, gL_sA, gL_sM, aI_sI, aI_sL, aI_sA, aI_sM, aL_sI, aL_sL, aL_sA, aL_sM, Bfinished_0, Bfinished_7, Bfinished_11, Bfinished_12, Bfinished_13, Bfinished_17, Bfinished_37, Bfinished_43, Bfinished_45, Bfinished_85, Bfinished_94, Bfinished_118, Bfinished_120, Bfinished_137, Bfinished_152, Bfinished_157, Bfinished_179, Bfinished_184, Bfinished_206, Bfinished_211, Bfinished_220, Bfinished_225, Bfinished_232, Bfinished_234, Bfinished_260, Bfinished_269, Bfinished_271, Bfinished_293, Bfinished_299, Bfinished_332, Bfinished_351, Bfinished_374, Bfinished_378, Bfinished_379, Bfinished_383, oi_0, oi_1, oi_2, oi_24, oi_25, oi_28, oi_3, oi_30, oi_31, oi_36, oi_4, oi_42, oi_45, oi_5, oi_59, oi_6, oi_7, oi_8, Pu_cant, Pj_condition, Pu_emit, Pj_enter, Pj_isRow, Pj_isWord, Pu_leave, Pj_take, Pj_want]; try dsimp only
                  try simp only [hR.e2, hR.e14, hR.e15, hR.e17, hR.e18, hR.e36, hR.e42, hR.e49, hR.e62, hR.a3, hR.a6, hR.a51, hR.a19, hR.a63, hR.a64, hR.hp, ho]
                  refine ⟨⟨trivial, trivial⟩, fun w137 τ137 w137' τ137' hq137 => ?_⟩
                  obtain ⟨⟨rfl, hE137⟩, rfl, hF137⟩ := hq137
                  have hR137 : Rj 1 τ137 τ137' := Rj.em (by (repeat (first | exact hR | refine Rj.i ?_ rfl | refine Rj.a ?_ rfl | refine Rj.m ?_ | refine Rj.s ?_ (by decide) | refine Rj.o1 ?_ (by first | lia | (dsimp only [Nat.beq, gI_sI, gI_sL, gI_sA, gI_sM, gL_sI, gL_sL, gL_sA, gL_sM, aI_sI, aI_sL, aI_sA, aI_sM, aL_sI, aL_sL, aL_sA, aL_sM]; lia)) | refine Rj.o2 ?_ | refine Rj.f1 ?_ (by first | lia | (dsimp only [Nat.beq, gI_sI, gI_sL, gI_sA, gI_sM, gL_sI, gL_sL, gL_sA, gL_sM, aI_sI, aI_sL, aI_sA, aI_sM, aL_sI, aL_sL, aL_sA, aL_sM]; lia)) | refine Rj.f2 ?_ | refine Rj.fs ?_))) hE137 hF137 (by first | exact fun _ => rfl | exact fun q => absurd q (by decide))
                  have hp137 := hE137.1 14 (by decide)
                  have ho137 := hE137.1 29 (by decide)
                  have hh137 := hE137.1 62 (by decide)
                  have hg137 := hE137.1 49 (by decide)
                  have hw137 := hE137.1 34 (by decide)
                  have hv137 := hF137.1 34 (by decide)
                  have ht137 := hE137.2.2.2.2.1 3 (by decide)
                  try dsimp only [Nat.beq, gI_sI, gI_sL, gI_sA, gI_sM, gL_sI, gL_sL, gL_sA, gL_sM, aI_sI, aI_sL, aI_sA, aI_sM, aL_sI, aL_sL, aL_sA, aL_sM] at hp137
                  try dsimp only [Nat.beq, gI_sI, gI_sL, gI_sA, gI_sM, gL_sI, gL_sL, gL_sA, gL_sM, aI_sI, aI_sL, aI_sA, aI_sM, aL_sI, aL_sL, aL_sA, aL_sM] at ho137
                  try dsimp only [Nat.beq, gI_sI, gI_sL, gI_sA, gI_sM, gL_sI, gL_sL, gL_sA, gL_sM, aI_sI, aI_sL, aI_sA, aI_sM, aL_sI, aL_sL, aL_sA, aL_sM] at hh137
                  try dsimp only [Nat.beq, gI_sI, gI_sL, gI_sA, gI_sM, gL_sI, gL_sL, gL_sA, gL_sM, aI_sI, aI_sL, aI_sA, aI_sM, aL_sI, aL_sL, aL_sA, aL_sM] at hg137
                  try dsimp only [Nat.beq, gI_sI, gI_sL, gI_sA, gI_sM, gL_sI, gL_sL, gL_sA, gL_sM, aI_sI, aI_sL, aI_sA, aI_sM, aL_sI, aL_sL, aL_sA, aL_sM] at hw137
                  try dsimp only [Nat.beq, gI_sI, gI_sL, gI_sA, gI_sM, gL_sI, gL_sL, gL_sA, gL_sM, aI_sI, aI_sL, aI_sA, aI_sM, aL_sI, aL_sL, aL_sA, aL_sM] at hv137
                  try dsimp only [Nat.beq, gI_sI, gI_sL, gI_sA, gI_sM, gL_sI, gL_sL, gL_sA, gL_sM, aI_sI, aI_sL, aI_sA, aI_sM, aL_sI, aL_sL, aL_sA, aL_sM] at ht137
                  have hz137 := congrFun ht137 (gI τ137 14).toNatClampNeg
                  dsimp only [Option.toList, List.cons_append, List.nil_append, Nat.beq, gI_sI, gI_sL, gI_sA, gI_sM, gL_sI, gL_sL, gL_sA, gL_sM, aI_sI, aI_sL, aI_sA, aI_sM, aL_sI, aL_sL, aL_sA, aL_sM]
                  try simp only [hR137.e2, hR137.e14, hR137.e15, hR137.e17, hR137.e18, hR137.e36, hR137.e42, hR137.e49, hR137.e62, hR137.a3, hR137.a6, hR137.a51, hR137.a19, hR137.a63, hR137.a64, hR137.hp, ho, hR.e18]
                  intro p138 q138
                  try simp only [hR137.e2, hR137.e14, hR137.e15, hR137.e17, hR137.e18, hR137.e36, hR137.e42, hR137.e49, hR137.e62, hR137.a3, hR137.a6, hR137.a51, hR137.a19, hR137.a63, hR137.a64, hR137.hp, ho, hR.e18]
                  refine ⟨⟨(Rj.w (md := 1) (by (repeat (first | exact hR137 | refine Rj.i ?_ rfl | refine Rj.a ?_ rfl | refine Rj.m ?_ | refine Rj.s ?_ (by decide) | refine Rj.o1 ?_ (by first | lia | (dsimp only [Nat.beq, gI_sI, gI_sL, gI_sA, gI_sM, gL_sI, gL_sL, gL_sA, gL_sM, aI_sI, aI_sL, aI_sA, aI_sM, aL_sI, aL_sL, aL_sA, aL_sM]; lia)) | refine Rj.o2 ?_ | refine Rj.f1 ?_ (by first | lia | (dsimp only [Nat.beq, gI_sI, gI_sL, gI_sA, gI_sM, gL_sI, gL_sL, gL_sA, gL_sM, aI_sI, aI_sL, aI_sA, aI_sM, aL_sI, aL_sL, aL_sA, aL_sM]; lia)) | refine Rj.f2 ?_ | refine Rj.fs ?_)))), by lia, by lia⟩, fun w139 τ139 w139' τ139' hq139 => ?_⟩
                  obtain ⟨b139, rfl, rfl, hb139⟩ := hq139
                  rcases hb139 with rfl | ⟨rfl, hr139, hk139, hx139⟩
                  · dsimp only [Option.toList, List.cons_append, List.nil_append, Nat.beq, gI_sI, gI_sL, gI_sA, gI_sM, gL_sI, gL_sL, gL_sA, gL_sM, aI_sI, aI_sL, aI_sA, aI_sM, aL_sI, aL_sL, aL_sA, aL_sM]
                    try simp only [hR137.e2, hR137.e14, hR137.e15, hR137.e17, hR137.e18, hR137.e36, hR137.e42, hR137.e49, hR137.e62, hR137.a3, hR137.a6, hR137.a51, hR137.a19, hR137.a63, hR137.a64, hR137.hp, ho, hR.e18]
                    refine ⟨fun h140 => absurd h140 (by decide), fun h140 => ⟨(by exact h140), ?_⟩⟩
                    clear h140
                    refine hB _ _ _ _ _ _ _ _ (fun m141 hm141 => ?_)
                    dsimp only [jgo, jwp, jst, jct, rfd, Bfinished, Nat.beq, lv_args, rlk, rs1, rs2, rdl, rky, rcd, rno, rsw, Value.category, List.filter, List.take, List.drop, List.reverse, List.reverseAux, List.cons_append, List.nil_append, Option.toList, Int.toNat, Int.reduceToNat, if_pos, if_neg, reduceIte, ↓reduceIte, Nat.reduceAdd, Nat.reduceEqDiff, Nat.reduceBEq, beq_self_eq_true, Bool.not_true, Bool.not_false, Bool.and_true, Bool.and_false, Bool.true_and, Bool.false_and, gI_sI, gI_sL, gI_sA, gI_sM, gL_sI, gL_sL, gL_sA, gL_sM, aI_sI, aI_sL, aI_sA, aI_sM, aL_sI, aL_sL, aL_sA, aL_sM, Bfinished_0, Bfinished_7, Bfinished_11, Bfinished_12, Bfinished_13, Bfinished_17, Bfinished_37, Bfinished_43, Bfinished_45, Bfinished_85, Bfinished_94, Bfinished_118, Bfinished_120, Bfinished_137, Bfinished_152, Bfinished_157, Bfinished_179, Bfinished_184, Bfinished_206, Bfinished_211, Bfinished_220, Bfinished_225, Bfinished_232, Bfinished_234, Bfinished_260, Bfinished_269, Bfinished_271, Bfinished_293, Bfinished_299, Bfinished_332, Bfinished_351, Bfinished_374, Bfinished_378, Bfinished_379, Bfinished_383, oi_0, oi_1, oi_2, oi_24, oi_25, oi_28, oi_3, oi_30, oi_31, oi_36, oi_4, oi_42, oi_45, oi_5, oi_59, oi_6, oi_7, oi_8, Pu_cant, Pj_condition, Pu_emit, Pj_enter, Pj_isRow, Pj_isWord, Pu_leave, Pj_take, Pj_want]; try dsimp only
                    try simp only [hR137.e2, hR137.e14, hR137.e15, hR137.e17, hR137.e18, hR137.e36, hR137.e42, hR137.e49, hR137.e62, hR137.a3, hR137.a6, hR137.a51, hR137.a19, hR137.a63, hR137.a64, hR137.hp, ho, hR.e18]
                    unfold Qj_finished
                    try dsimp only
                    exact ⟨_, rfl, rfl, Or.inl rfl⟩
                  · dsimp only [Option.toList, List.cons_append, List.nil_append, Nat.beq, gI_sI, gI_sL, gI_sA, gI_sM, gL_sI, gL_sL, gL_sA, gL_sM, aI_sI, aI_sL, aI_sA, aI_sM, aL_sI, aL_sL, aL_sA, aL_sM]
                    have hR139 : Rj 1 τ139 τ139' := hr139 _ (by (repeat (first | exact hR137 | refine Rj.i ?_ rfl | refine Rj.a ?_ rfl | refine Rj.m ?_ | refine Rj.s ?_ (by decide) | refine Rj.o1 ?_ (by first | lia | (dsimp only [Nat.beq, gI_sI, gI_sL, gI_sA, gI_sM, gL_sI, gL_sL, gL_sA, gL_sM, aI_sI, aI_sL, aI_sA, aI_sM, aL_sI, aL_sL, aL_sA, aL_sM]; lia)) | refine Rj.o2 ?_ | refine Rj.f1 ?_ (by first | lia | (dsimp only [Nat.beq, gI_sI, gI_sL, gI_sA, gI_sM, gL_sI, gL_sL, gL_sA, gL_sM, aI_sI, aI_sL, aI_sA, aI_sM, aL_sI, aL_sL, aL_sA, aL_sM]; lia)) | refine Rj.f2 ?_ | refine Rj.fs ?_)))
                    have ht139 := hk139.2 3 rfl
                    have hc139 := hk139.1 2 rfl
                    try dsimp only [Nat.beq, gI_sI, gI_sL, gI_sA, gI_sM, gL_sI, gL_sL, gL_sA, gL_sM, aI_sI, aI_sL, aI_sA, aI_sM, aL_sI, aL_sL, aL_sA, aL_sM] at hx139
                    try dsimp only [Nat.beq, gI_sI, gI_sL, gI_sA, gI_sM, gL_sI, gL_sL, gL_sA, gL_sM, aI_sI, aI_sL, aI_sA, aI_sM, aL_sI, aL_sL, aL_sA, aL_sM] at ht139
                    try dsimp only [Nat.beq, gI_sI, gI_sL, gI_sA, gI_sM, gL_sI, gL_sL, gL_sA, gL_sM, aI_sI, aI_sL, aI_sA, aI_sM, aL_sI, aL_sL, aL_sA, aL_sM] at hc139
                    have hh139 := hk139.1 62 rfl
                    have hg139 := hk139.1 49 rfl
                    try dsimp only [Nat.beq, gI_sI, gI_sL, gI_sA, gI_sM, gL_sI, gL_sL, gL_sA, gL_sM, aI_sI, aI_sL, aI_sA, aI_sM, aL_sI, aL_sL, aL_sA, aL_sM] at hh139
                    try dsimp only [Nat.beq, gI_sI, gI_sL, gI_sA, gI_sM, gL_sI, gL_sL, gL_sA, gL_sM, aI_sI, aI_sL, aI_sA, aI_sM, aL_sI, aL_sL, aL_sA, aL_sM] at hg139
                    have hz139 := congrFun ht139 (gI τ139 14).toNatClampNeg
                    try simp only [hR139.e2, hR139.e14, hR139.e15, hR139.e17, hR139.e18, hR139.e36, hR139.e42, hR139.e49, hR139.e62, hR139.a3, hR139.a6, hR139.a51, hR139.a19, hR139.a63, hR139.a64, hR139.hp, ho, hR.e18]
                    refine ⟨fun h142 => ⟨(by exact h142), ?_⟩, fun h142 => absurd h142 (by decide)⟩
                    clear h142
                    refine hB _ _ _ _ _ _ _ _ (fun m143 hm143 => ?_)
                    dsimp only [jgo, jwp, jst, jct, rfd, Bfinished, Nat.beq, lv_args, rlk, rs1, rs2, rdl, rky, rcd, rno, rsw, Value.category, List.filter, List.take, List.drop, List.reverse, List.reverseAux, List.cons_append, List.nil_append, Option.toList, Int.toNat, Int.reduceToNat, if_pos, if_neg, reduceIte, ↓reduceIte, Nat.reduceAdd, Nat.reduceEqDiff, Nat.reduceBEq, beq_self_eq_true, Bool.not_true, Bool.not_false, Bool.and_true, Bool.and_false, Bool.true_and, Bool.false_and, gI_sI, gI_sL, gI_sA, gI_sM, gL_sI, gL_sL, gL_sA, gL_sM, aI_sI, aI_sL, aI_sA, aI_sM, aL_sI, aL_sL, aL_sA, aL_sM, Bfinished_0, Bfinished_7, Bfinished_11, Bfinished_12, Bfinished_13, Bfinished_17, Bfinished_37, Bfinished_43, Bfinished_45, Bfinished_85, Bfinished_94, Bfinished_118, Bfinished_120, Bfinished_137, Bfinished_152, Bfinished_157, Bfinished_179, Bfinished_184, Bfinished_206, Bfinished_211, Bfinished_220, Bfinished_225, Bfinished_232, Bfinished_234, Bfinished_260, Bfinished_269, Bfinished_271, Bfinished_293, Bfinished_299, Bfinished_332, Bfinished_351, Bfinished_374, Bfinished_378, Bfinished_379, Bfinished_383, oi_0, oi_1, oi_2, oi_24, oi_25, oi_28, oi_3, oi_30, oi_31, oi_36, oi_4, oi_42, oi_45, oi_5, oi_59, oi_6, oi_7, oi_8, Pu_cant, Pj_condition, Pu_emit, Pj_enter, Pj_isRow, Pj_isWord, Pu_leave, Pj_take, Pj_want]; try dsimp only
                    try simp only [hR139.e2, hR139.e14, hR139.e15, hR139.e17, hR139.e18, hR139.e36, hR139.e42, hR139.e49, hR139.e62, hR139.a3, hR139.a6, hR139.a51, hR139.a19, hR139.a63, hR139.a64, hR139.hp, ho, hR.e18]
                    intro p144 q144
                    try simp only [hR139.e2, hR139.e14, hR139.e15, hR139.e17, hR139.e18, hR139.e36, hR139.e42, hR139.e49, hR139.e62, hR139.a3, hR139.a6, hR139.a51, hR139.a19, hR139.a63, hR139.a64, hR139.hp, ho, hR.e18]
                    refine ⟨(Rj.w (md := 1) (by (repeat (first | exact hR139 | refine Rj.i ?_ rfl | refine Rj.a ?_ rfl | refine Rj.m ?_ | refine Rj.s ?_ (by decide) | refine Rj.o1 ?_ (by first | lia | (dsimp only [Nat.beq, gI_sI, gI_sL, gI_sA, gI_sM, gL_sI, gL_sL, gL_sA, gL_sM, aI_sI, aI_sL, aI_sA, aI_sM, aL_sI, aL_sL, aL_sA, aL_sM]; lia)) | refine Rj.o2 ?_ | refine Rj.f1 ?_ (by first | lia | (dsimp only [Nat.beq, gI_sI, gI_sL, gI_sA, gI_sM, gL_sI, gL_sL, gL_sA, gL_sM, aI_sI, aI_sL, aI_sA, aI_sM, aL_sI, aL_sL, aL_sA, aL_sM]; lia)) | refine Rj.f2 ?_ | refine Rj.fs ?_)))), fun w145 τ145 w145' τ145' hq145 => ?_⟩
                    obtain ⟨b145, rfl, rfl, hb145⟩ := hq145
                    rcases hb145 with rfl | ⟨rfl, hr145, hk145, hx145⟩
                    · dsimp only [Option.toList, List.cons_append, List.nil_append, Nat.beq, gI_sI, gI_sL, gI_sA, gI_sM, gL_sI, gL_sL, gL_sA, gL_sM, aI_sI, aI_sL, aI_sA, aI_sM, aL_sI, aL_sL, aL_sA, aL_sM]
                      try simp only [hR139.e2, hR139.e14, hR139.e15, hR139.e17, hR139.e18, hR139.e36, hR139.e42, hR139.e49, hR139.e62, hR139.a3, hR139.a6, hR139.a51, hR139.a19, hR139.a63, hR139.a64, hR139.hp, ho, hR.e18]
                      unfold Qj_finished
                      try dsimp only
                      exact ⟨_, rfl, rfl, Or.inl rfl⟩
                    · dsimp only [Option.toList, List.cons_append, List.nil_append, Nat.beq, gI_sI, gI_sL, gI_sA, gI_sM, gL_sI, gL_sL, gL_sA, gL_sM, aI_sI, aI_sL, aI_sA, aI_sM, aL_sI, aL_sL, aL_sA, aL_sM]
                      have hR145 : Rj 1 τ145 τ145' := hr145 _ (by (repeat (first | exact hR139 | refine Rj.i ?_ rfl | refine Rj.a ?_ rfl | refine Rj.m ?_ | refine Rj.s ?_ (by decide) | refine Rj.o1 ?_ (by first | lia | (dsimp only [Nat.beq, gI_sI, gI_sL, gI_sA, gI_sM, gL_sI, gL_sL, gL_sA, gL_sM, aI_sI, aI_sL, aI_sA, aI_sM, aL_sI, aL_sL, aL_sA, aL_sM]; lia)) | refine Rj.o2 ?_ | refine Rj.f1 ?_ (by first | lia | (dsimp only [Nat.beq, gI_sI, gI_sL, gI_sA, gI_sM, gL_sI, gL_sL, gL_sA, gL_sM, aI_sI, aI_sL, aI_sA, aI_sM, aL_sI, aL_sL, aL_sA, aL_sM]; lia)) | refine Rj.f2 ?_ | refine Rj.fs ?_)))
                      have ht145 := hk145.2 3 rfl
                      have hc145 := hk145.1 2 rfl
                      try dsimp only [Nat.beq, gI_sI, gI_sL, gI_sA, gI_sM, gL_sI, gL_sL, gL_sA, gL_sM, aI_sI, aI_sL, aI_sA, aI_sM, aL_sI, aL_sL, aL_sA, aL_sM] at hx145
                      try dsimp only [Nat.beq, gI_sI, gI_sL, gI_sA, gI_sM, gL_sI, gL_sL, gL_sA, gL_sM, aI_sI, aI_sL, aI_sA, aI_sM, aL_sI, aL_sL, aL_sA, aL_sM] at ht145
                      try dsimp only [Nat.beq, gI_sI, gI_sL, gI_sA, gI_sM, gL_sI, gL_sL, gL_sA, gL_sM, aI_sI, aI_sL, aI_sA, aI_sM, aL_sI, aL_sL, aL_sA, aL_sM] at hc145
                      have hh145 := hk145.1 62 rfl
                      have hg145 := hk145.1 49 rfl
                      try dsimp only [Nat.beq, gI_sI, gI_sL, gI_sA, gI_sM, gL_sI, gL_sL, gL_sA, gL_sM, aI_sI, aI_sL, aI_sA, aI_sM, aL_sI, aL_sL, aL_sA, aL_sM] at hh145
                      try dsimp only [Nat.beq, gI_sI, gI_sL, gI_sA, gI_sM, gL_sI, gL_sL, gL_sA, gL_sM, aI_sI, aI_sL, aI_sA, aI_sM, aL_sI, aL_sL, aL_sA, aL_sM] at hg145
                      have hz145 := congrFun ht145 (gI τ145 14).toNatClampNeg
                      try simp only [hR145.e2, hR145.e14, hR145.e15, hR145.e17, hR145.e18, hR145.e36, hR145.e42, hR145.e49, hR145.e62, hR145.a3, hR145.a6, hR145.a51, hR145.a19, hR145.a63, hR145.a64, hR145.hp, ho, hR.e18]
                      unfold Qj_finished
                      try dsimp only
                      exact ⟨_, rfl, rfl, Or.inr ⟨rfl, by (repeat (first | exact hR145 | refine Rj.i ?_ rfl | refine Rj.a ?_ rfl | refine Rj.m ?_ | refine Rj.s ?_ (by decide) | refine Rj.o1 ?_ (by first | lia | (dsimp only [Nat.beq, gI_sI, gI_sL, gI_sA, gI_sM, gL_sI, gL_sL, gL_sA, gL_sM, aI_sI, aI_sL, aI_sA, aI_sM, aL_sI, aL_sL, aL_sA, aL_sM]; lia)) | refine Rj.o2 ?_ | refine Rj.f1 ?_ (by first | lia | (dsimp only [Nat.beq, gI_sI, gI_sL, gI_sA, gI_sM, gL_sI, gL_sL, gL_sA, gL_sM, aI_sI, aI_sL, aI_sA, aI_sM, aL_sI, aL_sL, aL_sA, aL_sM]; lia)) | refine Rj.f2 ?_ | refine Rj.fs ?_))⟩⟩
            · refine hB _ _ _ _ _ _ _ _ (fun m146 hm146 => ?_)
              dsimp only [jgo, jwp, jst, jct, rfd, Bfinished, Nat.beq, lv_args, rlk, rs1, rs2, rdl, rky, rcd, rno, rsw, Value.category, List.filter, List.take, List.drop, List.reverse, List.reverseAux, List.cons_append, List.nil_append, Option.toList, Int.toNat, Int.reduceToNat, if_pos, if_neg, reduceIte, ↓reduceIte, Nat.reduceAdd, Nat.reduceEqDiff, Nat.reduceBEq, beq_self_eq_true, Bool.not_true, Bool.not_false, Bool.and_true, Bool.and_false, Bool.true_and, Bool.false_and, gI_sI, gI_sL, gI_sA, gI_sM, gL_sI, gL_sL, gL_sA, gL_sM, aI_sI, aI_sL, aI_sA, aI_sM, aL_sI, aL_sL, aL_sA, aL_sM, Bfinished_0, Bfinished_7, Bfinished_11, Bfinished_12, Bfinished_13, Bfinished_17, Bfinished_37, Bfinished_43, Bfinished_45, Bfinished_85, Bfinished_94, Bfinished_118, Bfinished_120, Bfinished_137, Bfinished_152, Bfinished_157, Bfinished_179, Bfinished_184, Bfinished_206, Bfinished_211, Bfinished_220, Bfinished_225, Bfinished_232, Bfinished_234, Bfinished_260, Bfinished_269, Bfinished_271, Bfinished_293, Bfinished_299, Bfinished_332, Bfinished_351, Bfinished_374, Bfinished_378, Bfinished_379, Bfinished_383, oi_0, oi_1, oi_2, oi_24, oi_25, oi_28, oi_3, oi_30, oi_31, oi_36, oi_4, oi_42, oi_45, oi_5, oi_59, oi_6, oi_7, oi_8, Pu_cant, Pj_condition, Pu_emit, Pj_enter, Pj_isRow, Pj_isWord, Pu_leave, Pj_take, Pj_want]; try dsimp only
              try simp only [hR.e2, hR.e14, hR.e15, hR.e17, hR.e18, hR.e36, hR.e42, hR.e49, hR.e62, hR.a3, hR.a6, hR.a51, hR.a19, hR.a63, hR.a64, hR.hp, ho]
              unfold Qj_finished
              try dsimp only
              exact ⟨_, rfl, rfl, Or.inr ⟨rfl, by (repeat (first | exact hR | refine Rj.i ?_ rfl | refine Rj.a ?_ rfl | refine Rj.m ?_ | refine Rj.s ?_ (by decide) | refine Rj.o1 ?_ (by first | lia | (dsimp only [Nat.beq, gI_sI, gI_sL, gI_sA, gI_sM, gL_sI, gL_sL, gL_sA, gL_sM, aI_sI, aI_sL, aI_sA, aI_sM, aL_sI, aL_sL, aL_sA, aL_sM]; lia)) | refine Rj.o2 ?_ | refine Rj.f1 ?_ (by first | lia | (dsimp only [Nat.beq, gI_sI, gI_sL, gI_sA, gI_sM, gL_sI, gL_sL, gL_sA, gL_sM, aI_sI, aI_sL, aI_sA, aI_sM, aL_sI, aL_sL, aL_sA, aL_sM]; lia)) | refine Rj.f2 ?_ | refine Rj.fs ?_))⟩⟩
          · dsimp only [Option.toList, List.cons_append, List.nil_append, Nat.beq, gI_sI, gI_sL, gI_sA, gI_sM, gL_sI, gL_sL, gL_sA, gL_sM, aI_sI, aI_sL, aI_sA, aI_sM, aL_sI, aL_sL, aL_sA, aL_sM]
            try dsimp only [Nat.beq, gI_sI, gI_sL, gI_sA, gI_sM, gL_sI, gL_sL, gL_sA, gL_sM, aI_sI, aI_sL, aI_sA, aI_sM, aL_sI, aL_sL, aL_sA, aL_sM] at hf6
            try simp only [hR.e2, hR.e14, hR.e15, hR.e17, hR.e18, hR.e36, hR.e42, hR.e49, hR.e62, hR.a3, hR.a6, hR.a51, hR.a19, hR.a63, hR.a64, hR.hp, ho]
            refine ⟨fun h147 => ⟨(by exact h147), ?_⟩, fun h147 => absurd h147 (by decide)⟩
            clear h147
            refine hB _ _ _ _ _ _ _ _ (fun m148 hm148 => ?_)
            dsimp only [jgo, jwp, jst, jct, rfd, Bfinished, Nat.beq, lv_args, rlk, rs1, rs2, rdl, rky, rcd, rno, rsw, Value.category, List.filter, List.take, List.drop, List.reverse, List.reverseAux, List.cons_append, List.nil_append, Option.toList, Int.toNat, Int.reduceToNat, if_pos, if_neg, reduceIte, ↓reduceIte, Nat.reduceAdd, Nat.reduceEqDiff, Nat.reduceBEq, beq_self_eq_true, Bool.not_true, Bool.not_false, Bool.and_true, Bool.and_false, Bool.true_and, Bool.false_and, gI_sI, gI_sL, gI_sA, gI_sM, gL_sI, gL_sL, gL_sA, gL_sM, aI_sI, aI_sL, aI_sA, aI_sM, aL_sI, aL_sL, aL_sA, aL_sM, Bfinished_0, Bfinished_7, Bfinished_11, Bfinished_12, Bfinished_13, Bfinished_17, Bfinished_37, Bfinished_43, Bfinished_45, Bfinished_85, Bfinished_94, Bfinished_118, Bfinished_120, Bfinished_137, Bfinished_152, Bfinished_157, Bfinished_179, Bfinished_184, Bfinished_206, Bfinished_211, Bfinished_220, Bfinished_225, Bfinished_232, Bfinished_234, Bfinished_260, Bfinished_269, Bfinished_271, Bfinished_293, Bfinished_299, Bfinished_332, Bfinished_351, Bfinished_374, Bfinished_378, Bfinished_379, Bfinished_383, oi_0, oi_1, oi_2, oi_24, oi_25, oi_28, oi_3, oi_30, oi_31, oi_36, oi_4, oi_42, oi_45, oi_5, oi_59, oi_6, oi_7, oi_8, Pu_cant, Pj_condition, Pu_emit, Pj_enter, Pj_isRow, Pj_isWord, Pu_leave, Pj_take, Pj_want]; try dsimp only
            try simp only [hR.e2, hR.e14, hR.e15, hR.e17, hR.e18, hR.e36, hR.e42, hR.e49, hR.e62, hR.a3, hR.a6, hR.a51, hR.a19, hR.a63, hR.a64, hR.hp, ho]
            unfold Qj_finished
            try dsimp only
            exact ⟨_, rfl, rfl, Or.inr ⟨rfl, by (repeat (first | exact hR | refine Rj.i ?_ rfl | refine Rj.a ?_ rfl | refine Rj.m ?_ | refine Rj.s ?_ (by decide) | refine Rj.o1 ?_ (by first | lia | (dsimp only [Nat.beq, gI_sI, gI_sL, gI_sA, gI_sM, gL_sI, gL_sL, gL_sA, gL_sM, aI_sI, aI_sL, aI_sA, aI_sM, aL_sI, aL_sL, aL_sA, aL_sM]; lia)) | refine Rj.o2 ?_ | refine Rj.f1 ?_ (by first | lia | (dsimp only [Nat.beq, gI_sI, gI_sL, gI_sA, gI_sM, gL_sI, gL_sL, gL_sA, gL_sM, aI_sI, aI_sL, aI_sA, aI_sM, aL_sI, aL_sL, aL_sA, aL_sM]; lia)) | refine Rj.f2 ?_ | refine Rj.fs ?_))⟩⟩
    intro n0
    refine hB _ _ _ _ _ _ _ _ (fun m1 hm1 => ?_)
    dsimp only [jgo, jwp, jst, jct, rfd, Bfinished, Nat.beq, lv_args, rlk, rs1, rs2, rdl, rky, rcd, rno, rsw, Value.category, List.filter, List.take, List.drop, List.reverse, List.reverseAux, List.cons_append, List.nil_append, Option.toList, Int.toNat, Int.reduceToNat, if_pos, if_neg, reduceIte, ↓reduceIte, Nat.reduceAdd, Nat.reduceEqDiff, Nat.reduceBEq, beq_self_eq_true, Bool.not_true, Bool.not_false, Bool.and_true, Bool.and_false, Bool.true_and, Bool.false_and, gI_sI, gI_sL, gI_sA, gI_sM, gL_sI, gL_sL, gL_sA, gL_sM, aI_sI, aI_sL, aI_sA, aI_sM, aL_sI, aL_sL, aL_sA, aL_sM, Bfinished_0, Bfinished_7, Bfinished_11, Bfinished_12, Bfinished_13, Bfinished_17, Bfinished_37, Bfinished_43, Bfinished_45, Bfinished_85, Bfinished_94, Bfinished_118, Bfinished_120, Bfinished_137, Bfinished_152, Bfinished_157, Bfinished_179, Bfinished_184, Bfinished_206, Bfinished_211, Bfinished_220, Bfinished_225, Bfinished_232, Bfinished_234, Bfinished_260, Bfinished_269, Bfinished_271, Bfinished_293, Bfinished_299, Bfinished_332, Bfinished_351, Bfinished_374, Bfinished_378, Bfinished_379, Bfinished_383, oi_0, oi_1, oi_2, oi_24, oi_25, oi_28, oi_3, oi_30, oi_31, oi_36, oi_4, oi_42, oi_45, oi_5, oi_59, oi_6, oi_7, oi_8, Pu_cant, Pj_condition, Pu_emit, Pj_enter, Pj_isRow, Pj_isWord, Pu_leave, Pj_take, Pj_want]; try dsimp only
    try simp only [hR.e2, hR.e14, hR.e15, hR.e17, hR.e18, hR.e36, hR.e42, hR.e49, hR.e62, hR.a3, hR.a6, hR.a51, hR.a19, hR.a63, hR.a64, hR.hp]
    refine ⟨fun h2 => ⟨(by exact h2), ?_⟩, fun h2 => ⟨(by exact h2), ?_⟩⟩
    · refine hB _ _ _ _ _ _ _ _ (fun m3 hm3 => ?_)
      dsimp only [jgo, jwp, jst, jct, rfd, Bfinished, Nat.beq, lv_args, rlk, rs1, rs2, rdl, rky, rcd, rno, rsw, Value.category, List.filter, List.take, List.drop, List.reverse, List.reverseAux, List.cons_append, List.nil_append, Option.toList, Int.toNat, Int.reduceToNat, if_pos, if_neg, reduceIte, ↓reduceIte, Nat.reduceAdd, Nat.reduceEqDiff, Nat.reduceBEq, beq_self_eq_true, Bool.not_true, Bool.not_false, Bool.and_true, Bool.and_false, Bool.true_and, Bool.false_and, gI_sI, gI_sL, gI_sA, gI_sM, gL_sI, gL_sL, gL_sA, gL_sM, aI_sI, aI_sL, aI_sA, aI_sM, aL_sI, aL_sL, aL_sA, aL_sM, Bfinished_0, Bfinished_7, Bfinished_11, Bfinished_12, Bfinished_13, Bfinished_17, Bfinished_37, Bfinished_43, Bfinished_45, Bfinished_85, Bfinished_94, Bfinished_118, Bfinished_120, Bfinished_137, Bfinished_152, Bfinished_157, Bfinished_179, Bfinished_184, Bfinished_206, Bfinished_211, Bfinished_220, Bfinished_225, Bfinished_232, Bfinished_234, Bfinished_260, Bfinished_269, Bfinished_271, Bfinished_293, Bfinished_299, Bfinished_332, Bfinished_351, Bfinished_374, Bfinished_378, Bfinished_379, Bfinished_383, oi_0, oi_1, oi_2, oi_24, oi_25, oi_28, oi_3, oi_30, oi_31, oi_36, oi_4, oi_42, oi_45, oi_5, oi_59, oi_6, oi_7, oi_8, Pu_cant, Pj_condition, Pu_emit, Pj_enter, Pj_isRow, Pj_isWord, Pu_leave, Pj_take, Pj_want]; try dsimp only
      try simp only [hR.e2, hR.e14, hR.e15, hR.e17, hR.e18, hR.e36, hR.e42, hR.e49, hR.e62, hR.a3, hR.a6, hR.a51, hR.a19, hR.a63, hR.a64, hR.hp]
      refine hB _ _ _ _ _ _ _ _ (fun m4 hm4 => ?_)
      dsimp only [jgo, jwp, jst, jct, rfd, Bfinished, Nat.beq, lv_args, rlk, rs1, rs2, rdl, rky, rcd, rno, rsw, Value.category, List.filter, List.take, List.drop, List.reverse, List.reverseAux, List.cons_append, List.nil_append, Option.toList, Int.toNat, Int.reduceToNat, if_pos, if_neg, reduceIte, ↓reduceIte, Nat.reduceAdd, Nat.reduceEqDiff, Nat.reduceBEq, beq_self_eq_true, Bool.not_true, Bool.not_false, Bool.and_true, Bool.and_false, Bool.true_and, Bool.false_and, gI_sI, gI_sL, gI_sA, gI_sM, gL_sI, gL_sL, gL_sA, gL_sM, aI_sI, aI_sL, aI_sA, aI_sM, aL_sI, aL_sL, aL_sA, aL_sM, Bfinished_0, Bfinished_7, Bfinished_11, Bfinished_12, Bfinished_13, Bfinished_17, Bfinished_37, Bfinished_43, Bfinished_45, Bfinished_85, Bfinished_94, Bfinished_118, Bfinished_120, Bfinished_137, Bfinished_152, Bfinished_157, Bfinished_179, Bfinished_184, Bfinished_206, Bfinished_211, Bfinished_220, Bfinished_225, Bfinished_232, Bfinished_234, Bfinished_260, Bfinished_269, Bfinished_271, Bfinished_293, Bfinished_299, Bfinished_332, Bfinished_351, Bfinished_374, Bfinished_378, Bfinished_379, Bfinished_383, oi_0, oi_1, oi_2, oi_24, oi_25, oi_28, oi_3, oi_30, oi_31, oi_36, oi_4, oi_42, oi_45, oi_5, oi_59, oi_6, oi_7, oi_8, Pu_cant, Pj_condition, Pu_emit, Pj_enter, Pj_isRow, Pj_isWord, Pu_leave, Pj_take, Pj_want]; try dsimp only
      try simp only [hR.e2, hR.e14, hR.e15, hR.e17, hR.e18, hR.e36, hR.e42, hR.e49, hR.e62, hR.a3, hR.a6, hR.a51, hR.a19, hR.a63, hR.a64, hR.hp]
      exact hW _ 13 [(0, .ref 1000), (1, .int 0)] [(0, .ref 1000), (1, .int 0)] _ _ _ _ _ _ (by simp [rdl, rky]) (by simp [rdl, rky]) (loop _ _ _ 0 hR (fun q => absurd rfl q))
    · refine hB _ _ _ _ _ _ _ _ (fun m5 hm5 => ?_)
      dsimp only [jgo, jwp, jst, jct, rfd, Bfinished, Nat.beq, lv_args, rlk, rs1, rs2, rdl, rky, rcd, rno, rsw, Value.category, List.filter, List.take, List.drop, List.reverse, List.reverseAux, List.cons_append, List.nil_append, Option.toList, Int.toNat, Int.reduceToNat, if_pos, if_neg, reduceIte, ↓reduceIte, Nat.reduceAdd, Nat.reduceEqDiff, Nat.reduceBEq, beq_self_eq_true, Bool.not_true, Bool.not_false, Bool.and_true, Bool.and_false, Bool.true_and, Bool.false_and, gI_sI, gI_sL, gI_sA, gI_sM, gL_sI, gL_sL, gL_sA, gL_sM, aI_sI, aI_sL, aI_sA, aI_sM, aL_sI, aL_sL, aL_sA, aL_sM, Bfinished_0, Bfinished_7, Bfinished_11, Bfinished_12, Bfinished_13, Bfinished_17, Bfinished_37, Bfinished_43, Bfinished_45, Bfinished_85, Bfinished_94, Bfinished_118, Bfinished_120, Bfinished_137, Bfinished_152, Bfinished_157, Bfinished_179, Bfinished_184, Bfinished_206, Bfinished_211, Bfinished_220, Bfinished_225, Bfinished_232, Bfinished_234, Bfinished_260, Bfinished_269, Bfinished_271, Bfinished_293, Bfinished_299, Bfinished_332, Bfinished_351, Bfinished_374, Bfinished_378, Bfinished_379, Bfinished_383, oi_0, oi_1, oi_2, oi_24, oi_25, oi_28, oi_3, oi_30, oi_31, oi_36, oi_4, oi_42, oi_45, oi_5, oi_59, oi_6, oi_7, oi_8, Pu_cant, Pj_condition, Pu_emit, Pj_enter, Pj_isRow, Pj_isWord, Pu_leave, Pj_take, Pj_want]; try dsimp only
      try simp only [hR.e2, hR.e14, hR.e15, hR.e17, hR.e18, hR.e36, hR.e42, hR.e49, hR.e62, hR.a3, hR.a6, hR.a51, hR.a19, hR.a63, hR.a64, hR.hp]
      refine hB _ _ _ _ _ _ _ _ (fun m6 hm6 => ?_)
      dsimp only [jgo, jwp, jst, jct, rfd, Bfinished, Nat.beq, lv_args, rlk, rs1, rs2, rdl, rky, rcd, rno, rsw, Value.category, List.filter, List.take, List.drop, List.reverse, List.reverseAux, List.cons_append, List.nil_append, Option.toList, Int.toNat, Int.reduceToNat, if_pos, if_neg, reduceIte, ↓reduceIte, Nat.reduceAdd, Nat.reduceEqDiff, Nat.reduceBEq, beq_self_eq_true, Bool.not_true, Bool.not_false, Bool.and_true, Bool.and_false, Bool.true_and, Bool.false_and, gI_sI, gI_sL, gI_sA, gI_sM, gL_sI, gL_sL, gL_sA, gL_sM, aI_sI, aI_sL, aI_sA, aI_sM, aL_sI, aL_sL, aL_sA, aL_sM, Bfinished_0, Bfinished_7, Bfinished_11, Bfinished_12, Bfinished_13, Bfinished_17, Bfinished_37, Bfinished_43, Bfinished_45, Bfinished_85, Bfinished_94, Bfinished_118, Bfinished_120, Bfinished_137, Bfinished_152, Bfinished_157, Bfinished_179, Bfinished_184, Bfinished_206, Bfinished_211, Bfinished_220, Bfinished_225, Bfinished_232, Bfinished_234, Bfinished_260, Bfinished_269, Bfinished_271, Bfinished_293, Bfinished_299, Bfinished_332, Bfinished_351, Bfinished_374, Bfinished_378, Bfinished_379, Bfinished_383, oi_0, oi_1, oi_2, oi_24, oi_25, oi_28, oi_3, oi_30, oi_31, oi_36, oi_4, oi_42, oi_45, oi_5, oi_59, oi_6, oi_7, oi_8, Pu_cant, Pj_condition, Pu_emit, Pj_enter, Pj_isRow, Pj_isWord, Pu_leave, Pj_take, Pj_want]; try dsimp only
      try simp only [hR.e2, hR.e14, hR.e15, hR.e17, hR.e18, hR.e36, hR.e42, hR.e49, hR.e62, hR.a3, hR.a6, hR.a51, hR.a19, hR.a63, hR.a64, hR.hp]
      exact hW _ 13 [(0, .ref 1000), (1, .int 1)] [(0, .ref 1000), (1, .int 1)] _ _ _ _ _ _ (by simp [rdl, rky]) (by simp [rdl, rky]) (loop _ _ _ 1 hR (fun _ => by lia))
  next => exact hP.elim
def Pj_closed : JPr := fun A1 A2 σ ρ => match A1, A2 with
  | [.int step], [.int step'] => Rj 1 σ ρ ∧ 0 < gI σ 62
  | _, _ => False
def Qj_closed : JQr := fun A1 A2 σ ρ w τ w' τ' => match A1, A2 with
  | [.int step], [.int step'] => ∃ b : Int32, w = some (.int b) ∧ w' = some (.int b) ∧ (b = 0 ∨ (b = 1 ∧ Rj 1 τ τ'))
  | _, _ => False
set_option maxRecDepth 100000 in
set_option maxHeartbeats 4000000 in
theorem j_closed : JMet 61 Pj_closed Qj_closed := by
  refine JMet.by Bclosed [(20, (fun A1 A2 σ ρ => Pu_emit A1 σ ∧ Pu_emit A2 ρ), (fun A1 A2 σ ρ w τ w' τ' => Qu_emit A1 σ w τ ∧ Qu_emit A2 ρ w' τ')), (69, Pj_finished, Qj_finished)] rfl (jcc (JMet.u u_emit) (jcc j_finished jc0)) ?_
  intro A1 A2 σ ρ hP K hB hW
  unfold Pj_closed at hP
  split at hP
  next step step' =>
    obtain ⟨hR, h62⟩ := hP
    intro n0
    refine hB _ _ _ _ _ _ _ _ (fun m1 hm1 => ?_)
    dsimp only [jgo, jwp, jst, jct, rfd, Bclosed, Nat.beq, lv_args, rlk, rs1, rs2, rdl, rky, rcd, rno, rsw, Value.category, List.filter, List.take, List.drop, List.reverse, List.reverseAux, List.cons_append, List.nil_append, Option.toList, Int.toNat, Int.reduceToNat, if_pos, if_neg, reduceIte, ↓reduceIte, Nat.reduceAdd, Nat.reduceEqDiff, Nat.reduceBEq, beq_self_eq_true, Bool.not_true, Bool.not_false, Bool.and_true, Bool.and_false, Bool.true_and, Bool.false_and, gI_sI, gI_sL, gI_sA, gI_sM, gL_sI, gL_sL, gL_sA, gL_sM, aI_sI, aI_sL, aI_sA, aI_sM, aL_sI, aL_sL, aL_sA, aL_sM, Bclosed_0, oi_1, oi_45, Pu_emit, Pj_finished]; try dsimp only
    try simp only [hR.e2, hR.e14, hR.e15, hR.e17, hR.e18, hR.e36, hR.e42, hR.e49, hR.e62, hR.a3, hR.a6, hR.a51, hR.a19, hR.a63, hR.a64, hR.hp]
    intro p2 q2
    try simp only [hR.e2, hR.e14, hR.e15, hR.e17, hR.e18, hR.e36, hR.e42, hR.e49, hR.e62, hR.a3, hR.a6, hR.a51, hR.a19, hR.a63, hR.a64, hR.hp]
    refine ⟨⟨trivial, trivial⟩, fun w3 τ3 w3' τ3' hq3 => ?_⟩
    obtain ⟨⟨rfl, hE3⟩, rfl, hF3⟩ := hq3
    have hR3 : Rj 1 τ3 τ3' := Rj.em (by (repeat (first | exact hR | refine Rj.i ?_ rfl | refine Rj.a ?_ rfl | refine Rj.m ?_ | refine Rj.s ?_ (by decide) | refine Rj.o1 ?_ (by first | lia | (dsimp only [Nat.beq, gI_sI, gI_sL, gI_sA, gI_sM, gL_sI, gL_sL, gL_sA, gL_sM, aI_sI, aI_sL, aI_sA, aI_sM, aL_sI, aL_sL, aL_sA, aL_sM]; lia)) | refine Rj.o2 ?_ | refine Rj.f1 ?_ (by first | lia | (dsimp only [Nat.beq, gI_sI, gI_sL, gI_sA, gI_sM, gL_sI, gL_sL, gL_sA, gL_sM, aI_sI, aI_sL, aI_sA, aI_sM, aL_sI, aL_sL, aL_sA, aL_sM]; lia)) | refine Rj.f2 ?_ | refine Rj.fs ?_))) hE3 hF3 (by first | exact fun _ => rfl | exact fun q => absurd q (by decide))
    have hp3 := hE3.1 14 (by decide)
    have ho3 := hE3.1 29 (by decide)
    have hh3 := hE3.1 62 (by decide)
    have hg3 := hE3.1 49 (by decide)
    have hw3 := hE3.1 34 (by decide)
    have hv3 := hF3.1 34 (by decide)
    have ht3 := hE3.2.2.2.2.1 3 (by decide)
    try dsimp only [Nat.beq, gI_sI, gI_sL, gI_sA, gI_sM, gL_sI, gL_sL, gL_sA, gL_sM, aI_sI, aI_sL, aI_sA, aI_sM, aL_sI, aL_sL, aL_sA, aL_sM] at hp3
    try dsimp only [Nat.beq, gI_sI, gI_sL, gI_sA, gI_sM, gL_sI, gL_sL, gL_sA, gL_sM, aI_sI, aI_sL, aI_sA, aI_sM, aL_sI, aL_sL, aL_sA, aL_sM] at ho3
    try dsimp only [Nat.beq, gI_sI, gI_sL, gI_sA, gI_sM, gL_sI, gL_sL, gL_sA, gL_sM, aI_sI, aI_sL, aI_sA, aI_sM, aL_sI, aL_sL, aL_sA, aL_sM] at hh3
    try dsimp only [Nat.beq, gI_sI, gI_sL, gI_sA, gI_sM, gL_sI, gL_sL, gL_sA, gL_sM, aI_sI, aI_sL, aI_sA, aI_sM, aL_sI, aL_sL, aL_sA, aL_sM] at hg3
    try dsimp only [Nat.beq, gI_sI, gI_sL, gI_sA, gI_sM, gL_sI, gL_sL, gL_sA, gL_sM, aI_sI, aI_sL, aI_sA, aI_sM, aL_sI, aL_sL, aL_sA, aL_sM] at hw3
    try dsimp only [Nat.beq, gI_sI, gI_sL, gI_sA, gI_sM, gL_sI, gL_sL, gL_sA, gL_sM, aI_sI, aI_sL, aI_sA, aI_sM, aL_sI, aL_sL, aL_sA, aL_sM] at hv3
    try dsimp only [Nat.beq, gI_sI, gI_sL, gI_sA, gI_sM, gL_sI, gL_sL, gL_sA, gL_sM, aI_sI, aI_sL, aI_sA, aI_sM, aL_sI, aL_sL, aL_sA, aL_sM] at ht3
    have hz3 := congrFun ht3 (gI τ3 14).toNatClampNeg
    dsimp only [Option.toList, List.cons_append, List.nil_append, Nat.beq, gI_sI, gI_sL, gI_sA, gI_sM, gL_sI, gL_sL, gL_sA, gL_sM, aI_sI, aI_sL, aI_sA, aI_sM, aL_sI, aL_sL, aL_sA, aL_sM]
    try simp only [hR3.e2, hR3.e14, hR3.e15, hR3.e17, hR3.e18, hR3.e36, hR3.e42, hR3.e49, hR3.e62, hR3.a3, hR3.a6, hR3.a51, hR3.a19, hR3.a63, hR3.a64, hR3.hp, hR.e18]
    refine ⟨(by (repeat (first | exact hR3 | refine Rj.i ?_ rfl | refine Rj.a ?_ rfl | refine Rj.m ?_ | refine Rj.s ?_ (by decide) | refine Rj.o1 ?_ (by first | lia | (dsimp only [Nat.beq, gI_sI, gI_sL, gI_sA, gI_sM, gL_sI, gL_sL, gL_sA, gL_sM, aI_sI, aI_sL, aI_sA, aI_sM, aL_sI, aL_sL, aL_sA, aL_sM]; lia)) | refine Rj.o2 ?_ | refine Rj.f1 ?_ (by first | lia | (dsimp only [Nat.beq, gI_sI, gI_sL, gI_sA, gI_sM, gL_sI, gL_sL, gL_sA, gL_sM, aI_sI, aI_sL, aI_sA, aI_sM, aL_sI, aL_sL, aL_sA, aL_sM]; lia)) | refine Rj.f2 ?_ | refine Rj.fs ?_))), fun w4 τ4 w4' τ4' hq4 => ?_⟩
    obtain ⟨b4, rfl, rfl, hb4⟩ := hq4
    rcases hb4 with rfl | ⟨rfl, hR4⟩
    · dsimp only [Option.toList, List.cons_append, List.nil_append, Nat.beq, gI_sI, gI_sL, gI_sA, gI_sM, gL_sI, gL_sL, gL_sA, gL_sM, aI_sI, aI_sL, aI_sA, aI_sM, aL_sI, aL_sL, aL_sA, aL_sM]
      try simp only [hR3.e2, hR3.e14, hR3.e15, hR3.e17, hR3.e18, hR3.e36, hR3.e42, hR3.e49, hR3.e62, hR3.a3, hR3.a6, hR3.a51, hR3.a19, hR3.a63, hR3.a64, hR3.hp, hR.e18]
      unfold Qj_closed
      try dsimp only
      exact ⟨_, rfl, rfl, Or.inl rfl⟩
    · dsimp only [Option.toList, List.cons_append, List.nil_append, Nat.beq, gI_sI, gI_sL, gI_sA, gI_sM, gL_sI, gL_sL, gL_sA, gL_sM, aI_sI, aI_sL, aI_sA, aI_sM, aL_sI, aL_sL, aL_sA, aL_sM]
      try simp only [hR4.e2, hR4.e14, hR4.e15, hR4.e17, hR4.e18, hR4.e36, hR4.e42, hR4.e49, hR4.e62, hR4.a3, hR4.a6, hR4.a51, hR4.a19, hR4.a63, hR4.a64, hR4.hp, hR.e18]
      unfold Qj_closed
      try dsimp only
      exact ⟨_, rfl, rfl, Or.inr ⟨rfl, by (repeat (first | exact hR4 | refine Rj.i ?_ rfl | refine Rj.a ?_ rfl | refine Rj.m ?_ | refine Rj.s ?_ (by decide) | refine Rj.o1 ?_ (by first | lia | (dsimp only [Nat.beq, gI_sI, gI_sL, gI_sA, gI_sM, gL_sI, gL_sL, gL_sA, gL_sM, aI_sI, aI_sL, aI_sA, aI_sM, aL_sI, aL_sL, aL_sA, aL_sM]; lia)) | refine Rj.o2 ?_ | refine Rj.f1 ?_ (by first | lia | (dsimp only [Nat.beq, gI_sI, gI_sL, gI_sA, gI_sM, gL_sI, gL_sL, gL_sA, gL_sM, aI_sI, aI_sL, aI_sA, aI_sM, aL_sI, aL_sL, aL_sA, aL_sM]; lia)) | refine Rj.f2 ?_ | refine Rj.fs ?_))⟩⟩
  next => exact hP.elim
def Pj_plain : JPr := fun A1 A2 σ ρ => match A1, A2 with
  | [], [] => Rj 1 σ ρ
  | _, _ => False
def Qj_plain : JQr := fun A1 A2 σ ρ w τ w' τ' => match A1, A2 with
  | [], [] => ∃ b : Int32, w = some (.int b) ∧ w' = some (.int b) ∧ (b = 0 ∨ (b = 1 ∧ Rj 1 τ τ'))
  | _, _ => False
set_option maxRecDepth 100000 in
set_option maxHeartbeats 4000000 in
theorem j_plain : JMet 50 Pj_plain Qj_plain := by
  refine JMet.by Bplain [(20, (fun A1 A2 σ ρ => Pu_emit A1 σ ∧ Pu_emit A2 ρ), (fun A1 A2 σ ρ w τ w' τ' => Qu_emit A1 σ w τ ∧ Qu_emit A2 ρ w' τ')), (27, Pj_expression, Qj_expression), (69, Pj_finished, Qj_finished), (14, Pj_isSign, Qj_isSign), (51, (fun A1 A2 σ ρ => Pu_pop A1 σ ∧ Pu_pop A2 ρ), (fun A1 A2 σ ρ w τ w' τ' => Qu_pop A1 σ w τ ∧ Qu_pop A2 ρ w' τ')), (18, Pj_want, Qj_want)] rfl (jcc (JMet.u u_emit) (jcc j_expression (jcc j_finished (jcc j_isSign (jcc (JMet.u u_pop) (jcc j_want jc0)))))) ?_
  intro A1 A2 σ ρ hP K hB hW
  unfold Pj_plain at hP
  split at hP
  next =>
    have hR := hP
    intro n0
    refine hB _ _ _ _ _ _ _ _ (fun m1 hm1 => ?_)
    dsimp only [jgo, jwp, jst, jct, rfd, Bplain, Nat.beq, lv_args, rlk, rs1, rs2, rdl, rky, rcd, rno, rsw, Value.category, List.filter, List.take, List.drop, List.reverse, List.reverseAux, List.cons_append, List.nil_append, Option.toList, Int.toNat, Int.reduceToNat, if_pos, if_neg, reduceIte, ↓reduceIte, Nat.reduceAdd, Nat.reduceEqDiff, Nat.reduceBEq, beq_self_eq_true, Bool.not_true, Bool.not_false, Bool.and_true, Bool.and_false, Bool.true_and, Bool.false_and, gI_sI, gI_sL, gI_sA, gI_sM, gL_sI, gL_sL, gL_sA, gL_sM, aI_sI, aI_sL, aI_sA, aI_sM, aL_sI, aL_sL, aL_sA, aL_sM, Bplain_0, Bplain_21, Bplain_28, Bplain_30, Bplain_34, Bplain_43, Bplain_45, oi_0, oi_20, oi_45, oi_59, Pu_emit, Pj_expression, Pj_finished, Pj_isSign, Pu_pop, Pj_want]; try dsimp only
    try simp only [hR.e2, hR.e14, hR.e15, hR.e17, hR.e18, hR.e36, hR.e42, hR.e49, hR.e62, hR.a3, hR.a6, hR.a51, hR.a19, hR.a63, hR.a64, hR.hp]
    refine ⟨⟨trivial, trivial⟩, fun w2 τ2 w2' τ2' hq2 => ?_⟩
    obtain ⟨⟨rfl, hE2⟩, rfl, hF2⟩ := hq2
    have hR2 : Rj 1 τ2 τ2' := Rj.em (by (repeat (first | exact hR | refine Rj.i ?_ rfl | refine Rj.a ?_ rfl | refine Rj.m ?_ | refine Rj.s ?_ (by decide) | refine Rj.o1 ?_ (by first | lia | (dsimp only [Nat.beq, gI_sI, gI_sL, gI_sA, gI_sM, gL_sI, gL_sL, gL_sA, gL_sM, aI_sI, aI_sL, aI_sA, aI_sM, aL_sI, aL_sL, aL_sA, aL_sM]; lia)) | refine Rj.o2 ?_ | refine Rj.f1 ?_ (by first | lia | (dsimp only [Nat.beq, gI_sI, gI_sL, gI_sA, gI_sM, gL_sI, gL_sL, gL_sA, gL_sM, aI_sI, aI_sL, aI_sA, aI_sM, aL_sI, aL_sL, aL_sA, aL_sM]; lia)) | refine Rj.f2 ?_ | refine Rj.fs ?_))) hE2 hF2 (by first | exact fun _ => rfl | exact fun q => absurd q (by decide))
    have hp2 := hE2.1 14 (by decide)
    have ho2 := hE2.1 29 (by decide)
    have hh2 := hE2.1 62 (by decide)
    have hg2 := hE2.1 49 (by decide)
    have hw2 := hE2.1 34 (by decide)
    have hv2 := hF2.1 34 (by decide)
    have ht2 := hE2.2.2.2.2.1 3 (by decide)
    try dsimp only [Nat.beq, gI_sI, gI_sL, gI_sA, gI_sM, gL_sI, gL_sL, gL_sA, gL_sM, aI_sI, aI_sL, aI_sA, aI_sM, aL_sI, aL_sL, aL_sA, aL_sM] at hp2
    try dsimp only [Nat.beq, gI_sI, gI_sL, gI_sA, gI_sM, gL_sI, gL_sL, gL_sA, gL_sM, aI_sI, aI_sL, aI_sA, aI_sM, aL_sI, aL_sL, aL_sA, aL_sM] at ho2
    try dsimp only [Nat.beq, gI_sI, gI_sL, gI_sA, gI_sM, gL_sI, gL_sL, gL_sA, gL_sM, aI_sI, aI_sL, aI_sA, aI_sM, aL_sI, aL_sL, aL_sA, aL_sM] at hh2
    try dsimp only [Nat.beq, gI_sI, gI_sL, gI_sA, gI_sM, gL_sI, gL_sL, gL_sA, gL_sM, aI_sI, aI_sL, aI_sA, aI_sM, aL_sI, aL_sL, aL_sA, aL_sM] at hg2
    try dsimp only [Nat.beq, gI_sI, gI_sL, gI_sA, gI_sM, gL_sI, gL_sL, gL_sA, gL_sM, aI_sI, aI_sL, aI_sA, aI_sM, aL_sI, aL_sL, aL_sA, aL_sM] at hw2
    try dsimp only [Nat.beq, gI_sI, gI_sL, gI_sA, gI_sM, gL_sI, gL_sL, gL_sA, gL_sM, aI_sI, aI_sL, aI_sA, aI_sM, aL_sI, aL_sL, aL_sA, aL_sM] at hv2
    try dsimp only [Nat.beq, gI_sI, gI_sL, gI_sA, gI_sM, gL_sI, gL_sL, gL_sA, gL_sM, aI_sI, aI_sL, aI_sA, aI_sM, aL_sI, aL_sL, aL_sA, aL_sM] at ht2
    have hz2 := congrFun ht2 (gI τ2 14).toNatClampNeg
    dsimp only [Option.toList, List.cons_append, List.nil_append, Nat.beq, gI_sI, gI_sL, gI_sA, gI_sM, gL_sI, gL_sL, gL_sA, gL_sM, aI_sI, aI_sL, aI_sA, aI_sM, aL_sI, aL_sL, aL_sA, aL_sM]
    try simp only [hR2.e2, hR2.e14, hR2.e15, hR2.e17, hR2.e18, hR2.e36, hR2.e42, hR2.e49, hR2.e62, hR2.a3, hR2.a6, hR2.a51, hR2.a19, hR2.a63, hR2.a64, hR2.hp, hR.e18]
    refine ⟨⟨(Rj.w (md := 1) (by (repeat (first | exact hR2 | refine Rj.i ?_ rfl | refine Rj.a ?_ rfl | refine Rj.m ?_ | refine Rj.s ?_ (by decide) | refine Rj.o1 ?_ (by first | lia | (dsimp only [Nat.beq, gI_sI, gI_sL, gI_sA, gI_sM, gL_sI, gL_sL, gL_sA, gL_sM, aI_sI, aI_sL, aI_sA, aI_sM, aL_sI, aL_sL, aL_sA, aL_sM]; lia)) | refine Rj.o2 ?_ | refine Rj.f1 ?_ (by first | lia | (dsimp only [Nat.beq, gI_sI, gI_sL, gI_sA, gI_sM, gL_sI, gL_sL, gL_sA, gL_sM, aI_sI, aI_sL, aI_sA, aI_sM, aL_sI, aL_sL, aL_sA, aL_sM]; lia)) | refine Rj.f2 ?_ | refine Rj.fs ?_)))), (by first | exact True.intro | rfl)⟩, fun w3 τ3 w3' τ3' hq3 => ?_⟩
    obtain ⟨b3, rfl, rfl, rfl, rfl, hb3⟩ := hq3
    rcases hb3 with rfl | ⟨rfl, hf3⟩
    · dsimp only [Option.toList, List.cons_append, List.nil_append, Nat.beq, gI_sI, gI_sL, gI_sA, gI_sM, gL_sI, gL_sL, gL_sA, gL_sM, aI_sI, aI_sL, aI_sA, aI_sM, aL_sI, aL_sL, aL_sA, aL_sM]
      try simp only [hR2.e2, hR2.e14, hR2.e15, hR2.e17, hR2.e18, hR2.e36, hR2.e42, hR2.e49, hR2.e62, hR2.a3, hR2.a6, hR2.a51, hR2.a19, hR2.a63, hR2.a64, hR2.hp, hR.e18]
      refine ⟨fun h4 => absurd h4 (by decide), fun h4 => ⟨(by exact h4), ?_⟩⟩
      clear h4
      refine hB _ _ _ _ _ _ _ _ (fun m5 hm5 => ?_)
      dsimp only [jgo, jwp, jst, jct, rfd, Bplain, Nat.beq, lv_args, rlk, rs1, rs2, rdl, rky, rcd, rno, rsw, Value.category, List.filter, List.take, List.drop, List.reverse, List.reverseAux, List.cons_append, List.nil_append, Option.toList, Int.toNat, Int.reduceToNat, if_pos, if_neg, reduceIte, ↓reduceIte, Nat.reduceAdd, Nat.reduceEqDiff, Nat.reduceBEq, beq_self_eq_true, Bool.not_true, Bool.not_false, Bool.and_true, Bool.and_false, Bool.true_and, Bool.false_and, gI_sI, gI_sL, gI_sA, gI_sM, gL_sI, gL_sL, gL_sA, gL_sM, aI_sI, aI_sL, aI_sA, aI_sM, aL_sI, aL_sL, aL_sA, aL_sM, Bplain_0, Bplain_21, Bplain_28, Bplain_30, Bplain_34, Bplain_43, Bplain_45, oi_0, oi_20, oi_45, oi_59, Pu_emit, Pj_expression, Pj_finished, Pj_isSign, Pu_pop, Pj_want]; try dsimp only
      try simp only [hR2.e2, hR2.e14, hR2.e15, hR2.e17, hR2.e18, hR2.e36, hR2.e42, hR2.e49, hR2.e62, hR2.a3, hR2.a6, hR2.a51, hR2.a19, hR2.a63, hR2.a64, hR2.hp, hR.e18]
      refine ⟨(by (repeat (first | exact hR2 | refine Rj.i ?_ rfl | refine Rj.a ?_ rfl | refine Rj.m ?_ | refine Rj.s ?_ (by decide) | refine Rj.o1 ?_ (by first | lia | (dsimp only [Nat.beq, gI_sI, gI_sL, gI_sA, gI_sM, gL_sI, gL_sL, gL_sA, gL_sM, aI_sI, aI_sL, aI_sA, aI_sM, aL_sI, aL_sL, aL_sA, aL_sM]; lia)) | refine Rj.o2 ?_ | refine Rj.f1 ?_ (by first | lia | (dsimp only [Nat.beq, gI_sI, gI_sL, gI_sA, gI_sM, gL_sI, gL_sL, gL_sA, gL_sM, aI_sI, aI_sL, aI_sA, aI_sM, aL_sI, aL_sL, aL_sA, aL_sM]; lia)) | refine Rj.f2 ?_ | refine Rj.fs ?_))), fun w6 τ6 w6' τ6' hq6 => ?_⟩
      obtain ⟨b6, rfl, rfl, hb6⟩ := hq6
      rcases hb6 with rfl | ⟨rfl, hR6, hk6⟩
      · dsimp only [Option.toList, List.cons_append, List.nil_append, Nat.beq, gI_sI, gI_sL, gI_sA, gI_sM, gL_sI, gL_sL, gL_sA, gL_sM, aI_sI, aI_sL, aI_sA, aI_sM, aL_sI, aL_sL, aL_sA, aL_sM]
        try simp only [hR2.e2, hR2.e14, hR2.e15, hR2.e17, hR2.e18, hR2.e36, hR2.e42, hR2.e49, hR2.e62, hR2.a3, hR2.a6, hR2.a51, hR2.a19, hR2.a63, hR2.a64, hR2.hp, hR.e18]
        refine ⟨fun h7 => absurd h7 (by decide), fun h7 => ⟨(by exact h7), ?_⟩⟩
        clear h7
        refine hB _ _ _ _ _ _ _ _ (fun m8 hm8 => ?_)
        dsimp only [jgo, jwp, jst, jct, rfd, Bplain, Nat.beq, lv_args, rlk, rs1, rs2, rdl, rky, rcd, rno, rsw, Value.category, List.filter, List.take, List.drop, List.reverse, List.reverseAux, List.cons_append, List.nil_append, Option.toList, Int.toNat, Int.reduceToNat, if_pos, if_neg, reduceIte, ↓reduceIte, Nat.reduceAdd, Nat.reduceEqDiff, Nat.reduceBEq, beq_self_eq_true, Bool.not_true, Bool.not_false, Bool.and_true, Bool.and_false, Bool.true_and, Bool.false_and, gI_sI, gI_sL, gI_sA, gI_sM, gL_sI, gL_sL, gL_sA, gL_sM, aI_sI, aI_sL, aI_sA, aI_sM, aL_sI, aL_sL, aL_sA, aL_sM, Bplain_0, Bplain_21, Bplain_28, Bplain_30, Bplain_34, Bplain_43, Bplain_45, oi_0, oi_20, oi_45, oi_59, Pu_emit, Pj_expression, Pj_finished, Pj_isSign, Pu_pop, Pj_want]; try dsimp only
        try simp only [hR2.e2, hR2.e14, hR2.e15, hR2.e17, hR2.e18, hR2.e36, hR2.e42, hR2.e49, hR2.e62, hR2.a3, hR2.a6, hR2.a51, hR2.a19, hR2.a63, hR2.a64, hR2.hp, hR.e18]
        unfold Qj_plain
        try dsimp only
        exact ⟨_, rfl, rfl, Or.inl rfl⟩
      · dsimp only [Option.toList, List.cons_append, List.nil_append, Nat.beq, gI_sI, gI_sL, gI_sA, gI_sM, gL_sI, gL_sL, gL_sA, gL_sM, aI_sI, aI_sL, aI_sA, aI_sM, aL_sI, aL_sL, aL_sA, aL_sM]
        have hh6 := hk6.1 62 rfl
        have hg6 := hk6.1 49 rfl
        try dsimp only [Nat.beq, gI_sI, gI_sL, gI_sA, gI_sM, gL_sI, gL_sL, gL_sA, gL_sM, aI_sI, aI_sL, aI_sA, aI_sM, aL_sI, aL_sL, aL_sA, aL_sM] at hh6
        try dsimp only [Nat.beq, gI_sI, gI_sL, gI_sA, gI_sM, gL_sI, gL_sL, gL_sA, gL_sM, aI_sI, aI_sL, aI_sA, aI_sM, aL_sI, aL_sL, aL_sA, aL_sM] at hg6
        try simp only [hR6.e2, hR6.e14, hR6.e15, hR6.e17, hR6.e18, hR6.e36, hR6.e42, hR6.e49, hR6.e62, hR6.a3, hR6.a6, hR6.a51, hR6.a19, hR6.a63, hR6.a64, hR6.hp, hR.e18]
        refine ⟨fun h9 => ⟨(by exact h9), ?_⟩, fun h9 => absurd h9 (by decide)⟩
        clear h9
        refine hB _ _ _ _ _ _ _ _ (fun m10 hm10 => ?_)
        dsimp only [jgo, jwp, jst, jct, rfd, Bplain, Nat.beq, lv_args, rlk, rs1, rs2, rdl, rky, rcd, rno, rsw, Value.category, List.filter, List.take, List.drop, List.reverse, List.reverseAux, List.cons_append, List.nil_append, Option.toList, Int.toNat, Int.reduceToNat, if_pos, if_neg, reduceIte, ↓reduceIte, Nat.reduceAdd, Nat.reduceEqDiff, Nat.reduceBEq, beq_self_eq_true, Bool.not_true, Bool.not_false, Bool.and_true, Bool.and_false, Bool.true_and, Bool.false_and, gI_sI, gI_sL, gI_sA, gI_sM, gL_sI, gL_sL, gL_sA, gL_sM, aI_sI, aI_sL, aI_sA, aI_sM, aL_sI, aL_sL, aL_sA, aL_sM, Bplain_0, Bplain_21, Bplain_28, Bplain_30, Bplain_34, Bplain_43, Bplain_45, oi_0, oi_20, oi_45, oi_59, Pu_emit, Pj_expression, Pj_finished, Pj_isSign, Pu_pop, Pj_want]; try dsimp only
        try simp only [hR6.e2, hR6.e14, hR6.e15, hR6.e17, hR6.e18, hR6.e36, hR6.e42, hR6.e49, hR6.e62, hR6.a3, hR6.a6, hR6.a51, hR6.a19, hR6.a63, hR6.a64, hR6.hp, hR.e18]
        refine ⟨⟨trivial, trivial⟩, fun w11 τ11 w11' τ11' hq11 => ?_⟩
        obtain ⟨⟨rfl, a11, hE11⟩, rfl, a11', hF11⟩ := hq11
        have hR11 : Rj 1 τ11 τ11' := Rj.em (by (repeat (first | exact hR6 | refine Rj.i ?_ rfl | refine Rj.a ?_ rfl | refine Rj.m ?_ | refine Rj.s ?_ (by decide) | refine Rj.o1 ?_ (by first | lia | (dsimp only [Nat.beq, gI_sI, gI_sL, gI_sA, gI_sM, gL_sI, gL_sL, gL_sA, gL_sM, aI_sI, aI_sL, aI_sA, aI_sM, aL_sI, aL_sL, aL_sA, aL_sM]; lia)) | refine Rj.o2 ?_ | refine Rj.f1 ?_ (by first | lia | (dsimp only [Nat.beq, gI_sI, gI_sL, gI_sA, gI_sM, gL_sI, gL_sL, gL_sA, gL_sM, aI_sI, aI_sL, aI_sA, aI_sM, aL_sI, aL_sL, aL_sA, aL_sM]; lia)) | refine Rj.f2 ?_ | refine Rj.fs ?_))) hE11 hF11 (by first | exact fun _ => rfl | exact fun q => absurd q (by decide))
        have hp11 := hE11.1 14 (by decide)
        have ho11 := hE11.1 29 (by decide)
        have hh11 := hE11.1 62 (by decide)
        have hg11 := hE11.1 49 (by decide)
        have hw11 := hE11.1 34 (by decide)
        have hv11 := hF11.1 34 (by decide)
        have ht11 := hE11.2.2.2.2.1 3 (by decide)
        try dsimp only [Nat.beq, gI_sI, gI_sL, gI_sA, gI_sM, gL_sI, gL_sL, gL_sA, gL_sM, aI_sI, aI_sL, aI_sA, aI_sM, aL_sI, aL_sL, aL_sA, aL_sM] at hp11
        try dsimp only [Nat.beq, gI_sI, gI_sL, gI_sA, gI_sM, gL_sI, gL_sL, gL_sA, gL_sM, aI_sI, aI_sL, aI_sA, aI_sM, aL_sI, aL_sL, aL_sA, aL_sM] at ho11
        try dsimp only [Nat.beq, gI_sI, gI_sL, gI_sA, gI_sM, gL_sI, gL_sL, gL_sA, gL_sM, aI_sI, aI_sL, aI_sA, aI_sM, aL_sI, aL_sL, aL_sA, aL_sM] at hh11
        try dsimp only [Nat.beq, gI_sI, gI_sL, gI_sA, gI_sM, gL_sI, gL_sL, gL_sA, gL_sM, aI_sI, aI_sL, aI_sA, aI_sM, aL_sI, aL_sL, aL_sA, aL_sM] at hg11
        try dsimp only [Nat.beq, gI_sI, gI_sL, gI_sA, gI_sM, gL_sI, gL_sL, gL_sA, gL_sM, aI_sI, aI_sL, aI_sA, aI_sM, aL_sI, aL_sL, aL_sA, aL_sM] at hw11
        try dsimp only [Nat.beq, gI_sI, gI_sL, gI_sA, gI_sM, gL_sI, gL_sL, gL_sA, gL_sM, aI_sI, aI_sL, aI_sA, aI_sM, aL_sI, aL_sL, aL_sA, aL_sM] at hv11
        try dsimp only [Nat.beq, gI_sI, gI_sL, gI_sA, gI_sM, gL_sI, gL_sL, gL_sA, gL_sM, aI_sI, aI_sL, aI_sA, aI_sM, aL_sI, aL_sL, aL_sA, aL_sM] at ht11
        have hz11 := congrFun ht11 (gI τ11 14).toNatClampNeg
        dsimp only [Option.toList, List.cons_append, List.nil_append, Nat.beq, gI_sI, gI_sL, gI_sA, gI_sM, gL_sI, gL_sL, gL_sA, gL_sM, aI_sI, aI_sL, aI_sA, aI_sM, aL_sI, aL_sL, aL_sA, aL_sM]
        try simp only [hR11.e2, hR11.e14, hR11.e15, hR11.e17, hR11.e18, hR11.e36, hR11.e42, hR11.e49, hR11.e62, hR11.a3, hR11.a6, hR11.a51, hR11.a19, hR11.a63, hR11.a64, hR11.hp, hR.e18]
        refine hB _ _ _ _ _ _ _ _ (fun m12 hm12 => ?_)
        dsimp only [jgo, jwp, jst, jct, rfd, Bplain, Nat.beq, lv_args, rlk, rs1, rs2, rdl, rky, rcd, rno, rsw, Value.category, List.filter, List.take, List.drop, List.reverse, List.reverseAux, List.cons_append, List.nil_append, Option.toList, Int.toNat, Int.reduceToNat, if_pos, if_neg, reduceIte, ↓reduceIte, Nat.reduceAdd, Nat.reduceEqDiff, Nat.reduceBEq, beq_self_eq_true, Bool.not_true, Bool.not_false, Bool.and_true, Bool.and_false, Bool.true_and, Bool.false_and, gI_sI, gI_sL, gI_sA, gI_sM, gL_sI, gL_sL, gL_sA, gL_sM, aI_sI, aI_sL, aI_sA, aI_sM, aL_sI, aL_sL, aL_sA, aL_sM, Bplain_0, Bplain_21, Bplain_28, Bplain_30, Bplain_34, Bplain_43, Bplain_45, oi_0, oi_20, oi_45, oi_59, Pu_emit, Pj_expression, Pj_finished, Pj_isSign, Pu_pop, Pj_want]; try dsimp only
        try simp only [hR11.e2, hR11.e14, hR11.e15, hR11.e17, hR11.e18, hR11.e36, hR11.e42, hR11.e49, hR11.e62, hR11.a3, hR11.a6, hR11.a51, hR11.a19, hR11.a63, hR11.a64, hR11.hp, hR.e18]
        refine ⟨⟨(Rj.w (md := 1) (by (repeat (first | exact hR11 | refine Rj.i ?_ rfl | refine Rj.a ?_ rfl | refine Rj.m ?_ | refine Rj.s ?_ (by decide) | refine Rj.o1 ?_ (by first | lia | (dsimp only [Nat.beq, gI_sI, gI_sL, gI_sA, gI_sM, gL_sI, gL_sL, gL_sA, gL_sM, aI_sI, aI_sL, aI_sA, aI_sM, aL_sI, aL_sL, aL_sA, aL_sM]; lia)) | refine Rj.o2 ?_ | refine Rj.f1 ?_ (by first | lia | (dsimp only [Nat.beq, gI_sI, gI_sL, gI_sA, gI_sM, gL_sI, gL_sL, gL_sA, gL_sM, aI_sI, aI_sL, aI_sA, aI_sM, aL_sI, aL_sL, aL_sA, aL_sM]; lia)) | refine Rj.f2 ?_ | refine Rj.fs ?_)))), (by first | exact True.intro | rfl)⟩, fun w13 τ13 w13' τ13' hq13 => ?_⟩
        obtain ⟨b13, rfl, rfl, hb13⟩ := hq13
        rcases hb13 with rfl | ⟨rfl, hr13, hk13, hx13⟩
        · dsimp only [Option.toList, List.cons_append, List.nil_append, Nat.beq, gI_sI, gI_sL, gI_sA, gI_sM, gL_sI, gL_sL, gL_sA, gL_sM, aI_sI, aI_sL, aI_sA, aI_sM, aL_sI, aL_sL, aL_sA, aL_sM]
          try simp only [hR11.e2, hR11.e14, hR11.e15, hR11.e17, hR11.e18, hR11.e36, hR11.e42, hR11.e49, hR11.e62, hR11.a3, hR11.a6, hR11.a51, hR11.a19, hR11.a63, hR11.a64, hR11.hp, hR.e18]
          refine ⟨fun h14 => absurd h14 (by decide), fun h14 => ⟨(by exact h14), ?_⟩⟩
          clear h14
          refine hB _ _ _ _ _ _ _ _ (fun m15 hm15 => ?_)
          dsimp only [jgo, jwp, jst, jct, rfd, Bplain, Nat.beq, lv_args, rlk, rs1, rs2, rdl, rky, rcd, rno, rsw, Value.category, List.filter, List.take, List.drop, List.reverse, List.reverseAux, List.cons_append, List.nil_append, Option.toList, Int.toNat, Int.reduceToNat, if_pos, if_neg, reduceIte, ↓reduceIte, Nat.reduceAdd, Nat.reduceEqDiff, Nat.reduceBEq, beq_self_eq_true, Bool.not_true, Bool.not_false, Bool.and_true, Bool.and_false, Bool.true_and, Bool.false_and, gI_sI, gI_sL, gI_sA, gI_sM, gL_sI, gL_sL, gL_sA, gL_sM, aI_sI, aI_sL, aI_sA, aI_sM, aL_sI, aL_sL, aL_sA, aL_sM, Bplain_0, Bplain_21, Bplain_28, Bplain_30, Bplain_34, Bplain_43, Bplain_45, oi_0, oi_20, oi_45, oi_59, Pu_emit, Pj_expression, Pj_finished, Pj_isSign, Pu_pop, Pj_want]; try dsimp only
          try simp only [hR11.e2, hR11.e14, hR11.e15, hR11.e17, hR11.e18, hR11.e36, hR11.e42, hR11.e49, hR11.e62, hR11.a3, hR11.a6, hR11.a51, hR11.a19, hR11.a63, hR11.a64, hR11.hp, hR.e18]
          unfold Qj_plain
          try dsimp only
          exact ⟨_, rfl, rfl, Or.inl rfl⟩
        · dsimp only [Option.toList, List.cons_append, List.nil_append, Nat.beq, gI_sI, gI_sL, gI_sA, gI_sM, gL_sI, gL_sL, gL_sA, gL_sM, aI_sI, aI_sL, aI_sA, aI_sM, aL_sI, aL_sL, aL_sA, aL_sM]
          have hR13 : Rj 1 τ13 τ13' := hr13 _ (by (repeat (first | exact hR11 | refine Rj.i ?_ rfl | refine Rj.a ?_ rfl | refine Rj.m ?_ | refine Rj.s ?_ (by decide) | refine Rj.o1 ?_ (by first | lia | (dsimp only [Nat.beq, gI_sI, gI_sL, gI_sA, gI_sM, gL_sI, gL_sL, gL_sA, gL_sM, aI_sI, aI_sL, aI_sA, aI_sM, aL_sI, aL_sL, aL_sA, aL_sM]; lia)) | refine Rj.o2 ?_ | refine Rj.f1 ?_ (by first | lia | (dsimp only [Nat.beq, gI_sI, gI_sL, gI_sA, gI_sM, gL_sI, gL_sL, gL_sA, gL_sM, aI_sI, aI_sL, aI_sA, aI_sM, aL_sI, aL_sL, aL_sA, aL_sM]; lia)) | refine Rj.f2 ?_ | refine Rj.fs ?_)))
          have ht13 := hk13.2 3 rfl
          have hc13 := hk13.1 2 rfl
          try dsimp only [Nat.beq, gI_sI, gI_sL, gI_sA, gI_sM, gL_sI, gL_sL, gL_sA, gL_sM, aI_sI, aI_sL, aI_sA, aI_sM, aL_sI, aL_sL, aL_sA, aL_sM] at hx13
          try dsimp only [Nat.beq, gI_sI, gI_sL, gI_sA, gI_sM, gL_sI, gL_sL, gL_sA, gL_sM, aI_sI, aI_sL, aI_sA, aI_sM, aL_sI, aL_sL, aL_sA, aL_sM] at ht13
          try dsimp only [Nat.beq, gI_sI, gI_sL, gI_sA, gI_sM, gL_sI, gL_sL, gL_sA, gL_sM, aI_sI, aI_sL, aI_sA, aI_sM, aL_sI, aL_sL, aL_sA, aL_sM] at hc13
          have hh13 := hk13.1 62 rfl
          have hg13 := hk13.1 49 rfl
          try dsimp only [Nat.beq, gI_sI, gI_sL, gI_sA, gI_sM, gL_sI, gL_sL, gL_sA, gL_sM, aI_sI, aI_sL, aI_sA, aI_sM, aL_sI, aL_sL, aL_sA, aL_sM] at hh13
          try dsimp only [Nat.beq, gI_sI, gI_sL, gI_sA, gI_sM, gL_sI, gL_sL, gL_sA, gL_sM, aI_sI, aI_sL, aI_sA, aI_sM, aL_sI, aL_sL, aL_sA, aL_sM] at hg13
          have hz13 := congrFun ht13 (gI τ13 14).toNatClampNeg
          try simp only [hR13.e2, hR13.e14, hR13.e15, hR13.e17, hR13.e18, hR13.e36, hR13.e42, hR13.e49, hR13.e62, hR13.a3, hR13.a6, hR13.a51, hR13.a19, hR13.a63, hR13.a64, hR13.hp, hR.e18]
          refine ⟨fun h16 => ⟨(by exact h16), ?_⟩, fun h16 => absurd h16 (by decide)⟩
          clear h16
          refine hB _ _ _ _ _ _ _ _ (fun m17 hm17 => ?_)
          dsimp only [jgo, jwp, jst, jct, rfd, Bplain, Nat.beq, lv_args, rlk, rs1, rs2, rdl, rky, rcd, rno, rsw, Value.category, List.filter, List.take, List.drop, List.reverse, List.reverseAux, List.cons_append, List.nil_append, Option.toList, Int.toNat, Int.reduceToNat, if_pos, if_neg, reduceIte, ↓reduceIte, Nat.reduceAdd, Nat.reduceEqDiff, Nat.reduceBEq, beq_self_eq_true, Bool.not_true, Bool.not_false, Bool.and_true, Bool.and_false, Bool.true_and, Bool.false_and, gI_sI, gI_sL, gI_sA, gI_sM, gL_sI, gL_sL, gL_sA, gL_sM, aI_sI, aI_sL, aI_sA, aI_sM, aL_sI, aL_sL, aL_sA, aL_sM, Bplain_0, Bplain_21, Bplain_28, Bplain_30, Bplain_34, Bplain_43, Bplain_45, oi_0, oi_20, oi_45, oi_59, Pu_emit, Pj_expression, Pj_finished, Pj_isSign, Pu_pop, Pj_want]; try dsimp only
          try simp only [hR13.e2, hR13.e14, hR13.e15, hR13.e17, hR13.e18, hR13.e36, hR13.e42, hR13.e49, hR13.e62, hR13.a3, hR13.a6, hR13.a51, hR13.a19, hR13.a63, hR13.a64, hR13.hp, hR.e18]
          intro p18 q18
          try simp only [hR13.e2, hR13.e14, hR13.e15, hR13.e17, hR13.e18, hR13.e36, hR13.e42, hR13.e49, hR13.e62, hR13.a3, hR13.a6, hR13.a51, hR13.a19, hR13.a63, hR13.a64, hR13.hp, hR.e18]
          refine ⟨⟨trivial, trivial⟩, fun w19 τ19 w19' τ19' hq19 => ?_⟩
          obtain ⟨⟨rfl, hE19⟩, rfl, hF19⟩ := hq19
          have hR19 : Rj 1 τ19 τ19' := Rj.em (by (repeat (first | exact hR13 | refine Rj.i ?_ rfl | refine Rj.a ?_ rfl | refine Rj.m ?_ | refine Rj.s ?_ (by decide) | refine Rj.o1 ?_ (by first | lia | (dsimp only [Nat.beq, gI_sI, gI_sL, gI_sA, gI_sM, gL_sI, gL_sL, gL_sA, gL_sM, aI_sI, aI_sL, aI_sA, aI_sM, aL_sI, aL_sL, aL_sA, aL_sM]; lia)) | refine Rj.o2 ?_ | refine Rj.f1 ?_ (by first | lia | (dsimp only [Nat.beq, gI_sI, gI_sL, gI_sA, gI_sM, gL_sI, gL_sL, gL_sA, gL_sM, aI_sI, aI_sL, aI_sA, aI_sM, aL_sI, aL_sL, aL_sA, aL_sM]; lia)) | refine Rj.f2 ?_ | refine Rj.fs ?_))) hE19 hF19 (by first | exact fun _ => rfl | exact fun q => absurd q (by decide))
          have hp19 := hE19.1 14 (by decide)
          have ho19 := hE19.1 29 (by decide)
          have hh19 := hE19.1 62 (by decide)
          have hg19 := hE19.1 49 (by decide)
          have hw19 := hE19.1 34 (by decide)
          have hv19 := hF19.1 34 (by decide)
          have ht19 := hE19.2.2.2.2.1 3 (by decide)
          try dsimp only [Nat.beq, gI_sI, gI_sL, gI_sA, gI_sM, gL_sI, gL_sL, gL_sA, gL_sM, aI_sI, aI_sL, aI_sA, aI_sM, aL_sI, aL_sL, aL_sA, aL_sM] at hp19
          try dsimp only [Nat.beq, gI_sI, gI_sL, gI_sA, gI_sM, gL_sI, gL_sL, gL_sA, gL_sM, aI_sI, aI_sL, aI_sA, aI_sM, aL_sI, aL_sL, aL_sA, aL_sM] at ho19
          try dsimp only [Nat.beq, gI_sI, gI_sL, gI_sA, gI_sM, gL_sI, gL_sL, gL_sA, gL_sM, aI_sI, aI_sL, aI_sA, aI_sM, aL_sI, aL_sL, aL_sA, aL_sM] at hh19
          try dsimp only [Nat.beq, gI_sI, gI_sL, gI_sA, gI_sM, gL_sI, gL_sL, gL_sA, gL_sM, aI_sI, aI_sL, aI_sA, aI_sM, aL_sI, aL_sL, aL_sA, aL_sM] at hg19
          try dsimp only [Nat.beq, gI_sI, gI_sL, gI_sA, gI_sM, gL_sI, gL_sL, gL_sA, gL_sM, aI_sI, aI_sL, aI_sA, aI_sM, aL_sI, aL_sL, aL_sA, aL_sM] at hw19
          try dsimp only [Nat.beq, gI_sI, gI_sL, gI_sA, gI_sM, gL_sI, gL_sL, gL_sA, gL_sM, aI_sI, aI_sL, aI_sA, aI_sM, aL_sI, aL_sL, aL_sA, aL_sM] at hv19
          try dsimp only [Nat.beq, gI_sI, gI_sL, gI_sA, gI_sM, gL_sI, gL_sL, gL_sA, gL_sM, aI_sI, aI_sL, aI_sA, aI_sM, aL_sI, aL_sL, aL_sA, aL_sM] at ht19
          have hz19 := congrFun ht19 (gI τ19 14).toNatClampNeg
          dsimp only [Option.toList, List.cons_append, List.nil_append, Nat.beq, gI_sI, gI_sL, gI_sA, gI_sM, gL_sI, gL_sL, gL_sA, gL_sM, aI_sI, aI_sL, aI_sA, aI_sM, aL_sI, aL_sL, aL_sA, aL_sM]
          try simp only [hR19.e2, hR19.e14, hR19.e15, hR19.e17, hR19.e18, hR19.e36, hR19.e42, hR19.e49, hR19.e62, hR19.a3, hR19.a6, hR19.a51, hR19.a19, hR19.a63, hR19.a64, hR19.hp, hR.e18, hR13.e18]
          refine ⟨(by (repeat (first | exact hR19 | refine Rj.i ?_ rfl | refine Rj.a ?_ rfl | refine Rj.m ?_ | refine Rj.s ?_ (by decide) | refine Rj.o1 ?_ (by first | lia | (dsimp only [Nat.beq, gI_sI, gI_sL, gI_sA, gI_sM, gL_sI, gL_sL, gL_sA, gL_sM, aI_sI, aI_sL, aI_sA, aI_sM, aL_sI, aL_sL, aL_sA, aL_sM]; lia)) | refine Rj.o2 ?_ | refine Rj.f1 ?_ (by first | lia | (dsimp only [Nat.beq, gI_sI, gI_sL, gI_sA, gI_sM, gL_sI, gL_sL, gL_sA, gL_sM, aI_sI, aI_sL, aI_sA, aI_sM, aL_sI, aL_sL, aL_sA, aL_sM]; lia)) | refine Rj.f2 ?_ | refine Rj.fs ?_))), fun w20 τ20 w20' τ20' hq20 => ?_⟩
          obtain ⟨b20, rfl, rfl, hb20⟩ := hq20
          rcases hb20 with rfl | ⟨rfl, hR20⟩
          · dsimp only [Option.toList, List.cons_append, List.nil_append, Nat.beq, gI_sI, gI_sL, gI_sA, gI_sM, gL_sI, gL_sL, gL_sA, gL_sM, aI_sI, aI_sL, aI_sA, aI_sM, aL_sI, aL_sL, aL_sA, aL_sM]
            try simp only [hR19.e2, hR19.e14, hR19.e15, hR19.e17, hR19.e18, hR19.e36, hR19.e42, hR19.e49, hR19.e62, hR19.a3, hR19.a6, hR19.a51, hR19.a19, hR19.a63, hR19.a64, hR19.hp, hR.e18, hR13.e18]
            unfold Qj_plain
            try dsimp only
            exact ⟨_, rfl, rfl, Or.inl rfl⟩
          · dsimp only [Option.toList, List.cons_append, List.nil_append, Nat.beq, gI_sI, gI_sL, gI_sA, gI_sM, gL_sI, gL_sL, gL_sA, gL_sM, aI_sI, aI_sL, aI_sA, aI_sM, aL_sI, aL_sL, aL_sA, aL_sM]
            try simp only [hR20.e2, hR20.e14, hR20.e15, hR20.e17, hR20.e18, hR20.e36, hR20.e42, hR20.e49, hR20.e62, hR20.a3, hR20.a6, hR20.a51, hR20.a19, hR20.a63, hR20.a64, hR20.hp, hR.e18, hR13.e18]
            unfold Qj_plain
            try dsimp only
            exact ⟨_, rfl, rfl, Or.inr ⟨rfl, by (repeat (first | exact hR20 | refine Rj.i ?_ rfl | refine Rj.a ?_ rfl | refine Rj.m ?_ | refine Rj.s ?_ (by decide) | refine Rj.o1 ?_ (by first | lia | (dsimp only [Nat.beq, gI_sI, gI_sL, gI_sA, gI_sM, gL_sI, gL_sL, gL_sA, gL_sM, aI_sI, aI_sL, aI_sA, aI_sM, aL_sI, aL_sL, aL_sA, aL_sM]; lia)) | refine Rj.o2 ?_ | refine Rj.f1 ?_ (by first | lia | (dsimp only [Nat.beq, gI_sI, gI_sL, gI_sA, gI_sM, gL_sI, gL_sL, gL_sA, gL_sM, aI_sI, aI_sL, aI_sA, aI_sM, aL_sI, aL_sL, aL_sA, aL_sM]; lia)) | refine Rj.f2 ?_ | refine Rj.fs ?_))⟩⟩
    · dsimp only [Option.toList, List.cons_append, List.nil_append, Nat.beq, gI_sI, gI_sL, gI_sA, gI_sM, gL_sI, gL_sL, gL_sA, gL_sM, aI_sI, aI_sL, aI_sA, aI_sM, aL_sI, aL_sL, aL_sA, aL_sM]
      try dsimp only [Nat.beq, gI_sI, gI_sL, gI_sA, gI_sM, gL_sI, gL_sL, gL_sA, gL_sM, aI_sI, aI_sL, aI_sA, aI_sM, aL_sI, aL_sL, aL_sA, aL_sM] at hf3
      try simp only [hR2.e2, hR2.e14, hR2.e15, hR2.e17, hR2.e18, hR2.e36, hR2.e42, hR2.e49, hR2.e62, hR2.a3, hR2.a6, hR2.a51, hR2.a19, hR2.a63, hR2.a64, hR2.hp, hR.e18]
      refine ⟨fun h21 => ⟨(by exact h21), ?_⟩, fun h21 => absurd h21 (by decide)⟩
      clear h21
      refine hB _ _ _ _ _ _ _ _ (fun m22 hm22 => ?_)
      dsimp only [jgo, jwp, jst, jct, rfd, Bplain, Nat.beq, lv_args, rlk, rs1, rs2, rdl, rky, rcd, rno, rsw, Value.category, List.filter, List.take, List.drop, List.reverse, List.reverseAux, List.cons_append, List.nil_append, Option.toList, Int.toNat, Int.reduceToNat, if_pos, if_neg, reduceIte, ↓reduceIte, Nat.reduceAdd, Nat.reduceEqDiff, Nat.reduceBEq, beq_self_eq_true, Bool.not_true, Bool.not_false, Bool.and_true, Bool.and_false, Bool.true_and, Bool.false_and, gI_sI, gI_sL, gI_sA, gI_sM, gL_sI, gL_sL, gL_sA, gL_sM, aI_sI, aI_sL, aI_sA, aI_sM, aL_sI, aL_sL, aL_sA, aL_sM, Bplain_0, Bplain_21, Bplain_28, Bplain_30, Bplain_34, Bplain_43, Bplain_45, oi_0, oi_20, oi_45, oi_59, Pu_emit, Pj_expression, Pj_finished, Pj_isSign, Pu_pop, Pj_want]; try dsimp only
      try simp only [hR2.e2, hR2.e14, hR2.e15, hR2.e17, hR2.e18, hR2.e36, hR2.e42, hR2.e49, hR2.e62, hR2.a3, hR2.a6, hR2.a51, hR2.a19, hR2.a63, hR2.a64, hR2.hp, hR.e18]
      refine ⟨⟨(Rj.w (md := 1) (by (repeat (first | exact hR2 | refine Rj.i ?_ rfl | refine Rj.a ?_ rfl | refine Rj.m ?_ | refine Rj.s ?_ (by decide) | refine Rj.o1 ?_ (by first | lia | (dsimp only [Nat.beq, gI_sI, gI_sL, gI_sA, gI_sM, gL_sI, gL_sL, gL_sA, gL_sM, aI_sI, aI_sL, aI_sA, aI_sM, aL_sI, aL_sL, aL_sA, aL_sM]; lia)) | refine Rj.o2 ?_ | refine Rj.f1 ?_ (by first | lia | (dsimp only [Nat.beq, gI_sI, gI_sL, gI_sA, gI_sM, gL_sI, gL_sL, gL_sA, gL_sM, aI_sI, aI_sL, aI_sA, aI_sM, aL_sI, aL_sL, aL_sA, aL_sM]; lia)) | refine Rj.f2 ?_ | refine Rj.fs ?_)))), (by first | exact True.intro | rfl)⟩, fun w23 τ23 w23' τ23' hq23 => ?_⟩
      obtain ⟨b23, rfl, rfl, hb23⟩ := hq23
      rcases hb23 with rfl | ⟨rfl, hr23, hk23, hx23⟩
      · dsimp only [Option.toList, List.cons_append, List.nil_append, Nat.beq, gI_sI, gI_sL, gI_sA, gI_sM, gL_sI, gL_sL, gL_sA, gL_sM, aI_sI, aI_sL, aI_sA, aI_sM, aL_sI, aL_sL, aL_sA, aL_sM]
        try simp only [hR2.e2, hR2.e14, hR2.e15, hR2.e17, hR2.e18, hR2.e36, hR2.e42, hR2.e49, hR2.e62, hR2.a3, hR2.a6, hR2.a51, hR2.a19, hR2.a63, hR2.a64, hR2.hp, hR.e18]
        refine ⟨fun h24 => absurd h24 (by decide), fun h24 => ⟨(by exact h24), ?_⟩⟩
        clear h24
        refine hB _ _ _ _ _ _ _ _ (fun m25 hm25 => ?_)
        dsimp only [jgo, jwp, jst, jct, rfd, Bplain, Nat.beq, lv_args, rlk, rs1, rs2, rdl, rky, rcd, rno, rsw, Value.category, List.filter, List.take, List.drop, List.reverse, List.reverseAux, List.cons_append, List.nil_append, Option.toList, Int.toNat, Int.reduceToNat, if_pos, if_neg, reduceIte, ↓reduceIte, Nat.reduceAdd, Nat.reduceEqDiff, Nat.reduceBEq, beq_self_eq_true, Bool.not_true, Bool.not_false, Bool.and_true, Bool.and_false, Bool.true_and, Bool.false_and, gI_sI, gI_sL, gI_sA, gI_sM, gL_sI, gL_sL, gL_sA, gL_sM, aI_sI, aI_sL, aI_sA, aI_sM, aL_sI, aL_sL, aL_sA, aL_sM, Bplain_0, Bplain_21, Bplain_28, Bplain_30, Bplain_34, Bplain_43, Bplain_45, oi_0, oi_20, oi_45, oi_59, Pu_emit, Pj_expression, Pj_finished, Pj_isSign, Pu_pop, Pj_want]; try dsimp only
        try simp only [hR2.e2, hR2.e14, hR2.e15, hR2.e17, hR2.e18, hR2.e36, hR2.e42, hR2.e49, hR2.e62, hR2.a3, hR2.a6, hR2.a51, hR2.a19, hR2.a63, hR2.a64, hR2.hp, hR.e18]
        unfold Qj_plain
        try dsimp only
        exact ⟨_, rfl, rfl, Or.inl rfl⟩
      · dsimp only [Option.toList, List.cons_append, List.nil_append, Nat.beq, gI_sI, gI_sL, gI_sA, gI_sM, gL_sI, gL_sL, gL_sA, gL_sM, aI_sI, aI_sL, aI_sA, aI_sM, aL_sI, aL_sL, aL_sA, aL_sM]
        have hR23 : Rj 1 τ23 τ23' := hr23 _ (by (repeat (first | exact hR2 | refine Rj.i ?_ rfl | refine Rj.a ?_ rfl | refine Rj.m ?_ | refine Rj.s ?_ (by decide) | refine Rj.o1 ?_ (by first | lia | (dsimp only [Nat.beq, gI_sI, gI_sL, gI_sA, gI_sM, gL_sI, gL_sL, gL_sA, gL_sM, aI_sI, aI_sL, aI_sA, aI_sM, aL_sI, aL_sL, aL_sA, aL_sM]; lia)) | refine Rj.o2 ?_ | refine Rj.f1 ?_ (by first | lia | (dsimp only [Nat.beq, gI_sI, gI_sL, gI_sA, gI_sM, gL_sI, gL_sL, gL_sA, gL_sM, aI_sI, aI_sL, aI_sA, aI_sM, aL_sI, aL_sL, aL_sA, aL_sM]; lia)) | refine Rj.f2 ?_ | refine Rj.fs ?_)))
        have ht23 := hk23.2 3 rfl
        have hc23 := hk23.1 2 rfl
        try dsimp only [Nat.beq, gI_sI, gI_sL, gI_sA, gI_sM, gL_sI, gL_sL, gL_sA, gL_sM, aI_sI, aI_sL, aI_sA, aI_sM, aL_sI, aL_sL, aL_sA, aL_sM] at hx23
        try dsimp only [Nat.beq, gI_sI, gI_sL, gI_sA, gI_sM, gL_sI, gL_sL, gL_sA, gL_sM, aI_sI, aI_sL, aI_sA, aI_sM, aL_sI, aL_sL, aL_sA, aL_sM] at ht23
        try dsimp only [Nat.beq, gI_sI, gI_sL, gI_sA, gI_sM, gL_sI, gL_sL, gL_sA, gL_sM, aI_sI, aI_sL, aI_sA, aI_sM, aL_sI, aL_sL, aL_sA, aL_sM] at hc23
        have hh23 := hk23.1 62 rfl
        have hg23 := hk23.1 49 rfl
        try dsimp only [Nat.beq, gI_sI, gI_sL, gI_sA, gI_sM, gL_sI, gL_sL, gL_sA, gL_sM, aI_sI, aI_sL, aI_sA, aI_sM, aL_sI, aL_sL, aL_sA, aL_sM] at hh23
        try dsimp only [Nat.beq, gI_sI, gI_sL, gI_sA, gI_sM, gL_sI, gL_sL, gL_sA, gL_sM, aI_sI, aI_sL, aI_sA, aI_sM, aL_sI, aL_sL, aL_sA, aL_sM] at hg23
        have hz23 := congrFun ht23 (gI τ23 14).toNatClampNeg
        try simp only [hR23.e2, hR23.e14, hR23.e15, hR23.e17, hR23.e18, hR23.e36, hR23.e42, hR23.e49, hR23.e62, hR23.a3, hR23.a6, hR23.a51, hR23.a19, hR23.a63, hR23.a64, hR23.hp, hR.e18]
        refine ⟨fun h26 => ⟨(by exact h26), ?_⟩, fun h26 => absurd h26 (by decide)⟩
        clear h26
        refine hB _ _ _ _ _ _ _ _ (fun m27 hm27 => ?_)
        dsimp only [jgo, jwp, jst, jct, rfd, Bplain, Nat.beq, lv_args, rlk, rs1, rs2, rdl, rky, rcd, rno, rsw, Value.category, List.filter, List.take, List.drop, List.reverse, List.reverseAux, List.cons_append, List.nil_append, Option.toList, Int.toNat, Int.reduceToNat, if_pos, if_neg, reduceIte, ↓reduceIte, Nat.reduceAdd, Nat.reduceEqDiff, Nat.reduceBEq, beq_self_eq_true, Bool.not_true, Bool.not_false, Bool.and_true, Bool.and_false, Bool.true_and, Bool.false_and, gI_sI, gI_sL, gI_sA, gI_sM, gL_sI, gL_sL, gL_sA, gL_sM, aI_sI, aI_sL, aI_sA, aI_sM, aL_sI, aL_sL, aL_sA, aL_sM, Bplain_0, Bplain_21, Bplain_28, Bplain_30, Bplain_34, Bplain_43, Bplain_45, oi_0, oi_20, oi_45, oi_59, Pu_emit, Pj_expression, Pj_finished, Pj_isSign, Pu_pop, Pj_want]; try dsimp only
        try simp only [hR23.e2, hR23.e14, hR23.e15, hR23.e17, hR23.e18, hR23.e36, hR23.e42, hR23.e49, hR23.e62, hR23.a3, hR23.a6, hR23.a51, hR23.a19, hR23.a63, hR23.a64, hR23.hp, hR.e18]
        intro p28 q28
        try simp only [hR23.e2, hR23.e14, hR23.e15, hR23.e17, hR23.e18, hR23.e36, hR23.e42, hR23.e49, hR23.e62, hR23.a3, hR23.a6, hR23.a51, hR23.a19, hR23.a63, hR23.a64, hR23.hp, hR.e18]
        refine ⟨⟨trivial, trivial⟩, fun w29 τ29 w29' τ29' hq29 => ?_⟩
        obtain ⟨⟨rfl, hE29⟩, rfl, hF29⟩ := hq29
        have hR29 : Rj 1 τ29 τ29' := Rj.em (by (repeat (first | exact hR23 | refine Rj.i ?_ rfl | refine Rj.a ?_ rfl | refine Rj.m ?_ | refine Rj.s ?_ (by decide) | refine Rj.o1 ?_ (by first | lia | (dsimp only [Nat.beq, gI_sI, gI_sL, gI_sA, gI_sM, gL_sI, gL_sL, gL_sA, gL_sM, aI_sI, aI_sL, aI_sA, aI_sM, aL_sI, aL_sL, aL_sA, aL_sM]; lia)) | refine Rj.o2 ?_ | refine Rj.f1 ?_ (by first | lia | (dsimp only [Nat.beq, gI_sI, gI_sL, gI_sA, gI_sM, gL_sI, gL_sL, gL_sA, gL_sM, aI_sI, aI_sL, aI_sA, aI_sM, aL_sI, aL_sL, aL_sA, aL_sM]; lia)) | refine Rj.f2 ?_ | refine Rj.fs ?_))) hE29 hF29 (by first | exact fun _ => rfl | exact fun q => absurd q (by decide))
        have hp29 := hE29.1 14 (by decide)
        have ho29 := hE29.1 29 (by decide)
        have hh29 := hE29.1 62 (by decide)
        have hg29 := hE29.1 49 (by decide)
        have hw29 := hE29.1 34 (by decide)
        have hv29 := hF29.1 34 (by decide)
        have ht29 := hE29.2.2.2.2.1 3 (by decide)
        try dsimp only [Nat.beq, gI_sI, gI_sL, gI_sA, gI_sM, gL_sI, gL_sL, gL_sA, gL_sM, aI_sI, aI_sL, aI_sA, aI_sM, aL_sI, aL_sL, aL_sA, aL_sM] at hp29
        try dsimp only [Nat.beq, gI_sI, gI_sL, gI_sA, gI_sM, gL_sI, gL_sL, gL_sA, gL_sM, aI_sI, aI_sL, aI_sA, aI_sM, aL_sI, aL_sL, aL_sA, aL_sM] at ho29
        try dsimp only [Nat.beq, gI_sI, gI_sL, gI_sA, gI_sM, gL_sI, gL_sL, gL_sA, gL_sM, aI_sI, aI_sL, aI_sA, aI_sM, aL_sI, aL_sL, aL_sA, aL_sM] at hh29
        try dsimp only [Nat.beq, gI_sI, gI_sL, gI_sA, gI_sM, gL_sI, gL_sL, gL_sA, gL_sM, aI_sI, aI_sL, aI_sA, aI_sM, aL_sI, aL_sL, aL_sA, aL_sM] at hg29
        try dsimp only [Nat.beq, gI_sI, gI_sL, gI_sA, gI_sM, gL_sI, gL_sL, gL_sA, gL_sM, aI_sI, aI_sL, aI_sA, aI_sM, aL_sI, aL_sL, aL_sA, aL_sM] at hw29
        try dsimp only [Nat.beq, gI_sI, gI_sL, gI_sA, gI_sM, gL_sI, gL_sL, gL_sA, gL_sM, aI_sI, aI_sL, aI_sA, aI_sM, aL_sI, aL_sL, aL_sA, aL_sM] at hv29
        try dsimp only [Nat.beq, gI_sI, gI_sL, gI_sA, gI_sM, gL_sI, gL_sL, gL_sA, gL_sM, aI_sI, aI_sL, aI_sA, aI_sM, aL_sI, aL_sL, aL_sA, aL_sM] at ht29
        have hz29 := congrFun ht29 (gI τ29 14).toNatClampNeg
        dsimp only [Option.toList, List.cons_append, List.nil_append, Nat.beq, gI_sI, gI_sL, gI_sA, gI_sM, gL_sI, gL_sL, gL_sA, gL_sM, aI_sI, aI_sL, aI_sA, aI_sM, aL_sI, aL_sL, aL_sA, aL_sM]
        try simp only [hR29.e2, hR29.e14, hR29.e15, hR29.e17, hR29.e18, hR29.e36, hR29.e42, hR29.e49, hR29.e62, hR29.a3, hR29.a6, hR29.a51, hR29.a19, hR29.a63, hR29.a64, hR29.hp, hR.e18, hR23.e18]
        refine ⟨(by (repeat (first | exact hR29 | refine Rj.i ?_ rfl | refine Rj.a ?_ rfl | refine Rj.m ?_ | refine Rj.s ?_ (by decide) | refine Rj.o1 ?_ (by first | lia | (dsimp only [Nat.beq, gI_sI, gI_sL, gI_sA, gI_sM, gL_sI, gL_sL, gL_sA, gL_sM, aI_sI, aI_sL, aI_sA, aI_sM, aL_sI, aL_sL, aL_sA, aL_sM]; lia)) | refine Rj.o2 ?_ | refine Rj.f1 ?_ (by first | lia | (dsimp only [Nat.beq, gI_sI, gI_sL, gI_sA, gI_sM, gL_sI, gL_sL, gL_sA, gL_sM, aI_sI, aI_sL, aI_sA, aI_sM, aL_sI, aL_sL, aL_sA, aL_sM]; lia)) | refine Rj.f2 ?_ | refine Rj.fs ?_))), fun w30 τ30 w30' τ30' hq30 => ?_⟩
        obtain ⟨b30, rfl, rfl, hb30⟩ := hq30
        rcases hb30 with rfl | ⟨rfl, hR30⟩
        · dsimp only [Option.toList, List.cons_append, List.nil_append, Nat.beq, gI_sI, gI_sL, gI_sA, gI_sM, gL_sI, gL_sL, gL_sA, gL_sM, aI_sI, aI_sL, aI_sA, aI_sM, aL_sI, aL_sL, aL_sA, aL_sM]
          try simp only [hR29.e2, hR29.e14, hR29.e15, hR29.e17, hR29.e18, hR29.e36, hR29.e42, hR29.e49, hR29.e62, hR29.a3, hR29.a6, hR29.a51, hR29.a19, hR29.a63, hR29.a64, hR29.hp, hR.e18, hR23.e18]
          unfold Qj_plain
          try dsimp only
          exact ⟨_, rfl, rfl, Or.inl rfl⟩
        · dsimp only [Option.toList, List.cons_append, List.nil_append, Nat.beq, gI_sI, gI_sL, gI_sA, gI_sM, gL_sI, gL_sL, gL_sA, gL_sM, aI_sI, aI_sL, aI_sA, aI_sM, aL_sI, aL_sL, aL_sA, aL_sM]
          try simp only [hR30.e2, hR30.e14, hR30.e15, hR30.e17, hR30.e18, hR30.e36, hR30.e42, hR30.e49, hR30.e62, hR30.a3, hR30.a6, hR30.a51, hR30.a19, hR30.a63, hR30.a64, hR30.hp, hR.e18, hR23.e18]
          unfold Qj_plain
          try dsimp only
          exact ⟨_, rfl, rfl, Or.inr ⟨rfl, by (repeat (first | exact hR30 | refine Rj.i ?_ rfl | refine Rj.a ?_ rfl | refine Rj.m ?_ | refine Rj.s ?_ (by decide) | refine Rj.o1 ?_ (by first | lia | (dsimp only [Nat.beq, gI_sI, gI_sL, gI_sA, gI_sM, gL_sI, gL_sL, gL_sA, gL_sM, aI_sI, aI_sL, aI_sA, aI_sM, aL_sI, aL_sL, aL_sA, aL_sM]; lia)) | refine Rj.o2 ?_ | refine Rj.f1 ?_ (by first | lia | (dsimp only [Nat.beq, gI_sI, gI_sL, gI_sA, gI_sM, gL_sI, gL_sL, gL_sA, gL_sM, aI_sI, aI_sL, aI_sA, aI_sM, aL_sI, aL_sL, aL_sA, aL_sM]; lia)) | refine Rj.f2 ?_ | refine Rj.fs ?_))⟩⟩
  next => exact hP.elim
def Pj_exps : JPr := fun A1 A2 σ ρ => match A1, A2 with
  | [], [] => Rj 1 σ ρ
  | _, _ => False
def Qj_exps : JQr := fun A1 A2 σ ρ w τ w' τ' => match A1, A2 with
  | [], [] => ∃ b : Int32, w = some (.int b) ∧ w' = some (.int b) ∧ (b = 0 ∨ (b = 1 ∧ Rj 1 τ τ' ∧ Kx σ τ))
  | _, _ => False
set_option maxRecDepth 100000 in
set_option maxHeartbeats 4000000 in
theorem j_exps : JMet 56 Pj_exps Qj_exps := by
  refine JMet.by Bexps [(27, Pj_expression, Qj_expression), (14, Pj_isSign, Qj_isSign), (51, (fun A1 A2 σ ρ => Pu_pop A1 σ ∧ Pu_pop A2 ρ), (fun A1 A2 σ ρ w τ w' τ' => Qu_pop A1 σ w τ ∧ Qu_pop A2 ρ w' τ')), (17, Pj_take, Qj_take)] rfl (jcc j_expression (jcc j_isSign (jcc (JMet.u u_pop) (jcc j_take jc0)))) ?_
  intro A1 A2 σ ρ hP K hB hW
  unfold Pj_exps at hP
  split at hP
  next =>
    have hR := hP
    have loop : ∀ (n : Nat) (X Y : RS) (more : Int32), Rj 1 X Y → Kx σ X → K n 2 [(0, .ref 1000), (1, .int more)] [(0, .ref 1000), (1, .int more)] [] [] X Y := by
      intro n
      induction n using Nat.strongRecOn with
      | ind n loop =>
        intro X Y more hR hk0
        refine hB _ _ _ _ _ _ _ _ (fun m1 hm1 => ?_)
        dsimp only [jgo, jwp, jst, jct, rfd, Bexps, Nat.beq, lv_args, rlk, rs1, rs2, rdl, rky, rcd, rno, rsw, Value.category, List.filter, List.take, List.drop, List.reverse, List.reverseAux, List.cons_append, List.nil_append, Option.toList, Int.toNat, Int.reduceToNat, if_pos, if_neg, reduceIte, ↓reduceIte, Nat.reduceAdd, Nat.reduceEqDiff, Nat.reduceBEq, beq_self_eq_true, Bool.not_true, Bool.not_false, Bool.and_true, Bool.and_false, Bool.true_and, Bool.false_and, gI_sI, gI_sL, gI_sA, gI_sM, gL_sI, gL_sL, gL_sA, gL_sM, aI_sI, aI_sL, aI_sA, aI_sM, aL_sI, aL_sL, aL_sA, aL_sM, Bexps_0, Bexps_2, Bexps_6, Bexps_13, Bexps_15, Bexps_30, Bexps_37, Bexps_39, oi_0, oi_1, oi_44, Pj_expression, Pj_isSign, Pu_pop, Pj_take]; try dsimp only
        try simp only [hR.e2, hR.e14, hR.e15, hR.e17, hR.e18, hR.e36, hR.e42, hR.e49, hR.e62, hR.a3, hR.a6, hR.a51, hR.a19, hR.a63, hR.a64, hR.hp]
        refine ⟨fun h2 => ⟨(by exact h2), ?_⟩, fun h2 => ⟨(by exact h2), ?_⟩⟩
        · refine hB _ _ _ _ _ _ _ _ (fun m3 hm3 => ?_)
          dsimp only [jgo, jwp, jst, jct, rfd, Bexps, Nat.beq, lv_args, rlk, rs1, rs2, rdl, rky, rcd, rno, rsw, Value.category, List.filter, List.take, List.drop, List.reverse, List.reverseAux, List.cons_append, List.nil_append, Option.toList, Int.toNat, Int.reduceToNat, if_pos, if_neg, reduceIte, ↓reduceIte, Nat.reduceAdd, Nat.reduceEqDiff, Nat.reduceBEq, beq_self_eq_true, Bool.not_true, Bool.not_false, Bool.and_true, Bool.and_false, Bool.true_and, Bool.false_and, gI_sI, gI_sL, gI_sA, gI_sM, gL_sI, gL_sL, gL_sA, gL_sM, aI_sI, aI_sL, aI_sA, aI_sM, aL_sI, aL_sL, aL_sA, aL_sM, Bexps_0, Bexps_2, Bexps_6, Bexps_13, Bexps_15, Bexps_30, Bexps_37, Bexps_39, oi_0, oi_1, oi_44, Pj_expression, Pj_isSign, Pu_pop, Pj_take]; try dsimp only
          try simp only [hR.e2, hR.e14, hR.e15, hR.e17, hR.e18, hR.e36, hR.e42, hR.e49, hR.e62, hR.a3, hR.a6, hR.a51, hR.a19, hR.a63, hR.a64, hR.hp]
          unfold Qj_exps
          try dsimp only
          exact ⟨_, rfl, rfl, Or.inr ⟨rfl, by (repeat (first | exact hR | refine Rj.i ?_ rfl | refine Rj.a ?_ rfl | refine Rj.m ?_ | refine Rj.s ?_ (by decide) | refine Rj.o1 ?_ (by first | lia | (dsimp only [Nat.beq, gI_sI, gI_sL, gI_sA, gI_sM, gL_sI, gL_sL, gL_sA, gL_sM, aI_sI, aI_sL, aI_sA, aI_sM, aL_sI, aL_sL, aL_sA, aL_sM]; lia)) | refine Rj.o2 ?_ | refine Rj.f1 ?_ (by first | lia | (dsimp only [Nat.beq, gI_sI, gI_sL, gI_sA, gI_sM, gL_sI, gL_sL, gL_sA, gL_sM, aI_sI, aI_sL, aI_sA, aI_sM, aL_sI, aL_sL, aL_sA, aL_sM]; lia)) | refine Rj.f2 ?_ | refine Rj.fs ?_)), by (repeat (first | exact Kx.rf | refine Kx.i ?_ rfl | refine Kx.a ?_ rfl | refine Kx.m ?_ | refine Kx.tr ?_ hk0))⟩⟩
        · refine hB _ _ _ _ _ _ _ _ (fun m4 hm4 => ?_)
          dsimp only [jgo, jwp, jst, jct, rfd, Bexps, Nat.beq, lv_args, rlk, rs1, rs2, rdl, rky, rcd, rno, rsw, Value.category, List.filter, List.take, List.drop, List.reverse, List.reverseAux, List.cons_append, List.nil_append, Option.toList, Int.toNat, Int.reduceToNat, if_pos, if_neg, reduceIte, ↓reduceIte, Nat.reduceAdd, Nat.reduceEqDiff, Nat.reduceBEq, beq_self_eq_true, Bool.not_true, Bool.not_false, Bool.and_true, Bool.and_false, Bool.true_and, Bool.false_and, gI_sI, gI_sL, gI_sA, gI_sM, gL_sI, gL_sL, gL_sA, gL_sM, aI_sI, aI_sL, aI_sA, aI_sM, aL_sI, aL_sL, aL_sA, aL_sM, Bexps_0, Bexps_2, Bexps_6, Bexps_13, Bexps_15, Bexps_30, Bexps_37, Bexps_39, oi_0, oi_1, oi_44, Pj_expression, Pj_isSign, Pu_pop, Pj_take]; try dsimp only
          try simp only [hR.e2, hR.e14, hR.e15, hR.e17, hR.e18, hR.e36, hR.e42, hR.e49, hR.e62, hR.a3, hR.a6, hR.a51, hR.a19, hR.a63, hR.a64, hR.hp]
          refine ⟨(by (repeat (first | exact hR | refine Rj.i ?_ rfl | refine Rj.a ?_ rfl | refine Rj.m ?_ | refine Rj.s ?_ (by decide) | refine Rj.o1 ?_ (by first | lia | (dsimp only [Nat.beq, gI_sI, gI_sL, gI_sA, gI_sM, gL_sI, gL_sL, gL_sA, gL_sM, aI_sI, aI_sL, aI_sA, aI_sM, aL_sI, aL_sL, aL_sA, aL_sM]; lia)) | refine Rj.o2 ?_ | refine Rj.f1 ?_ (by first | lia | (dsimp only [Nat.beq, gI_sI, gI_sL, gI_sA, gI_sM, gL_sI, gL_sL, gL_sA, gL_sM, aI_sI, aI_sL, aI_sA, aI_sM, aL_sI, aL_sL, aL_sA, aL_sM]; lia)) | refine Rj.f2 ?_ | refine Rj.fs ?_))), fun w5 τ5 w5' τ5' hq5 => ?_⟩
          obtain ⟨b5, rfl, rfl, hb5⟩ := hq5
          rcases hb5 with rfl | ⟨rfl, hR5, hk5⟩
          · dsimp only [Option.toList, List.cons_append, List.nil_append, Nat.beq, gI_sI, gI_sL, gI_sA, gI_sM, gL_sI, gL_sL, gL_sA, gL_sM, aI_sI, aI_sL, aI_sA, aI_sM, aL_sI, aL_sL, aL_sA, aL_sM]
            try simp only [hR.e2, hR.e14, hR.e15, hR.e17, hR.e18, hR.e36, hR.e42, hR.e49, hR.e62, hR.a3, hR.a6, hR.a51, hR.a19, hR.a63, hR.a64, hR.hp]
            refine ⟨fun h6 => absurd h6 (by decide), fun h6 => ⟨(by exact h6), ?_⟩⟩
            clear h6
            refine hB _ _ _ _ _ _ _ _ (fun m7 hm7 => ?_)
            dsimp only [jgo, jwp, jst, jct, rfd, Bexps, Nat.beq, lv_args, rlk, rs1, rs2, rdl, rky, rcd, rno, rsw, Value.category, List.filter, List.take, List.drop, List.reverse, List.reverseAux, List.cons_append, List.nil_append, Option.toList, Int.toNat, Int.reduceToNat, if_pos, if_neg, reduceIte, ↓reduceIte, Nat.reduceAdd, Nat.reduceEqDiff, Nat.reduceBEq, beq_self_eq_true, Bool.not_true, Bool.not_false, Bool.and_true, Bool.and_false, Bool.true_and, Bool.false_and, gI_sI, gI_sL, gI_sA, gI_sM, gL_sI, gL_sL, gL_sA, gL_sM, aI_sI, aI_sL, aI_sA, aI_sM, aL_sI, aL_sL, aL_sA, aL_sM, Bexps_0, Bexps_2, Bexps_6, Bexps_13, Bexps_15, Bexps_30, Bexps_37, Bexps_39, oi_0, oi_1, oi_44, Pj_expression, Pj_isSign, Pu_pop, Pj_take]; try dsimp only
            try simp only [hR.e2, hR.e14, hR.e15, hR.e17, hR.e18, hR.e36, hR.e42, hR.e49, hR.e62, hR.a3, hR.a6, hR.a51, hR.a19, hR.a63, hR.a64, hR.hp]
            unfold Qj_exps
            try dsimp only
            exact ⟨_, rfl, rfl, Or.inl rfl⟩
          · dsimp only [Option.toList, List.cons_append, List.nil_append, Nat.beq, gI_sI, gI_sL, gI_sA, gI_sM, gL_sI, gL_sL, gL_sA, gL_sM, aI_sI, aI_sL, aI_sA, aI_sM, aL_sI, aL_sL, aL_sA, aL_sM]
            have hh5 := hk5.1 62 rfl
            have hg5 := hk5.1 49 rfl
            try dsimp only [Nat.beq, gI_sI, gI_sL, gI_sA, gI_sM, gL_sI, gL_sL, gL_sA, gL_sM, aI_sI, aI_sL, aI_sA, aI_sM, aL_sI, aL_sL, aL_sA, aL_sM] at hh5
            try dsimp only [Nat.beq, gI_sI, gI_sL, gI_sA, gI_sM, gL_sI, gL_sL, gL_sA, gL_sM, aI_sI, aI_sL, aI_sA, aI_sM, aL_sI, aL_sL, aL_sA, aL_sM] at hg5
            try simp only [hR5.e2, hR5.e14, hR5.e15, hR5.e17, hR5.e18, hR5.e36, hR5.e42, hR5.e49, hR5.e62, hR5.a3, hR5.a6, hR5.a51, hR5.a19, hR5.a63, hR5.a64, hR5.hp]
            refine ⟨fun h8 => ⟨(by exact h8), ?_⟩, fun h8 => absurd h8 (by decide)⟩
            clear h8
            refine hB _ _ _ _ _ _ _ _ (fun m9 hm9 => ?_)
            dsimp only [jgo, jwp, jst, jct, rfd, Bexps, Nat.beq, lv_args, rlk, rs1, rs2, rdl, rky, rcd, rno, rsw, Value.category, List.filter, List.take, List.drop, List.reverse, List.reverseAux, List.cons_append, List.nil_append, Option.toList, Int.toNat, Int.reduceToNat, if_pos, if_neg, reduceIte, ↓reduceIte, Nat.reduceAdd, Nat.reduceEqDiff, Nat.reduceBEq, beq_self_eq_true, Bool.not_true, Bool.not_false, Bool.and_true, Bool.and_false, Bool.true_and, Bool.false_and, gI_sI, gI_sL, gI_sA, gI_sM, gL_sI, gL_sL, gL_sA, gL_sM, aI_sI, aI_sL, aI_sA, aI_sM, aL_sI, aL_sL, aL_sA, aL_sM, Bexps_0, Bexps_2, Bexps_6, Bexps_13, Bexps_15, Bexps_30, Bexps_37, Bexps_39, oi_0, oi_1, oi_44, Pj_expression, Pj_isSign, Pu_pop, Pj_take]; try dsimp only
            try simp only [hR5.e2, hR5.e14, hR5.e15, hR5.e17, hR5.e18, hR5.e36, hR5.e42, hR5.e49, hR5.e62, hR5.a3, hR5.a6, hR5.a51, hR5.a19, hR5.a63, hR5.a64, hR5.hp]
            refine ⟨⟨trivial, trivial⟩, fun w10 τ10 w10' τ10' hq10 => ?_⟩
            obtain ⟨⟨rfl, a10, hE10⟩, rfl, a10', hF10⟩ := hq10
            have hR10 : Rj 1 τ10 τ10' := Rj.em (by (repeat (first | exact hR5 | refine Rj.i ?_ rfl | refine Rj.a ?_ rfl | refine Rj.m ?_ | refine Rj.s ?_ (by decide) | refine Rj.o1 ?_ (by first | lia | (dsimp only [Nat.beq, gI_sI, gI_sL, gI_sA, gI_sM, gL_sI, gL_sL, gL_sA, gL_sM, aI_sI, aI_sL, aI_sA, aI_sM, aL_sI, aL_sL, aL_sA, aL_sM]; lia)) | refine Rj.o2 ?_ | refine Rj.f1 ?_ (by first | lia | (dsimp only [Nat.beq, gI_sI, gI_sL, gI_sA, gI_sM, gL_sI, gL_sL, gL_sA, gL_sM, aI_sI, aI_sL, aI_sA, aI_sM, aL_sI, aL_sL, aL_sA, aL_sM]; lia)) | refine Rj.f2 ?_ | refine Rj.fs ?_))) hE10 hF10 (by first | exact fun _ => rfl | exact fun q => absurd q (by decide))
            have hp10 := hE10.1 14 (by decide)
            have ho10 := hE10.1 29 (by decide)
            have hh10 := hE10.1 62 (by decide)
            have hg10 := hE10.1 49 (by decide)
            have hw10 := hE10.1 34 (by decide)
            have hv10 := hF10.1 34 (by decide)
            have ht10 := hE10.2.2.2.2.1 3 (by decide)
            try dsimp only [Nat.beq, gI_sI, gI_sL, gI_sA, gI_sM, gL_sI, gL_sL, gL_sA, gL_sM, aI_sI, aI_sL, aI_sA, aI_sM, aL_sI, aL_sL, aL_sA, aL_sM] at hp10
            try dsimp only [Nat.beq, gI_sI, gI_sL, gI_sA, gI_sM, gL_sI, gL_sL, gL_sA, gL_sM, aI_sI, aI_sL, aI_sA, aI_sM, aL_sI, aL_sL, aL_sA, aL_sM] at ho10
            try dsimp only [Nat.beq, gI_sI, gI_sL, gI_sA, gI_sM, gL_sI, gL_sL, gL_sA, gL_sM, aI_sI, aI_sL, aI_sA, aI_sM, aL_sI, aL_sL, aL_sA, aL_sM] at hh10
            try dsimp only [Nat.beq, gI_sI, gI_sL, gI_sA, gI_sM, gL_sI, gL_sL, gL_sA, gL_sM, aI_sI, aI_sL, aI_sA, aI_sM, aL_sI, aL_sL, aL_sA, aL_sM] at hg10
            try dsimp only [Nat.beq, gI_sI, gI_sL, gI_sA, gI_sM, gL_sI, gL_sL, gL_sA, gL_sM, aI_sI, aI_sL, aI_sA, aI_sM, aL_sI, aL_sL, aL_sA, aL_sM] at hw10
            try dsimp only [Nat.beq, gI_sI, gI_sL, gI_sA, gI_sM, gL_sI, gL_sL, gL_sA, gL_sM, aI_sI, aI_sL, aI_sA, aI_sM, aL_sI, aL_sL, aL_sA, aL_sM] at hv10
            try dsimp only [Nat.beq, gI_sI, gI_sL, gI_sA, gI_sM, gL_sI, gL_sL, gL_sA, gL_sM, aI_sI, aI_sL, aI_sA, aI_sM, aL_sI, aL_sL, aL_sA, aL_sM] at ht10
            have hz10 := congrFun ht10 (gI τ10 14).toNatClampNeg
            dsimp only [Option.toList, List.cons_append, List.nil_append, Nat.beq, gI_sI, gI_sL, gI_sA, gI_sM, gL_sI, gL_sL, gL_sA, gL_sM, aI_sI, aI_sL, aI_sA, aI_sM, aL_sI, aL_sL, aL_sA, aL_sM]
            try simp only [hR10.e2, hR10.e14, hR10.e15, hR10.e17, hR10.e18, hR10.e36, hR10.e42, hR10.e49, hR10.e62, hR10.a3, hR10.a6, hR10.a51, hR10.a19, hR10.a63, hR10.a64, hR10.hp]
            refine ⟨⟨(Rj.w (md := 1) (by (repeat (first | exact hR10 | refine Rj.i ?_ rfl | refine Rj.a ?_ rfl | refine Rj.m ?_ | refine Rj.s ?_ (by decide) | refine Rj.o1 ?_ (by first | lia | (dsimp only [Nat.beq, gI_sI, gI_sL, gI_sA, gI_sM, gL_sI, gL_sL, gL_sA, gL_sM, aI_sI, aI_sL, aI_sA, aI_sM, aL_sI, aL_sL, aL_sA, aL_sM]; lia)) | refine Rj.o2 ?_ | refine Rj.f1 ?_ (by first | lia | (dsimp only [Nat.beq, gI_sI, gI_sL, gI_sA, gI_sM, gL_sI, gL_sL, gL_sA, gL_sM, aI_sI, aI_sL, aI_sA, aI_sM, aL_sI, aL_sL, aL_sA, aL_sM]; lia)) | refine Rj.f2 ?_ | refine Rj.fs ?_)))), (by first | exact True.intro | rfl)⟩, fun w11 τ11 w11' τ11' hq11 => ?_⟩
            obtain ⟨b11, rfl, rfl, rfl, rfl, hb11⟩ := hq11
            rcases hb11 with rfl | ⟨rfl, hf11⟩
            · dsimp only [Option.toList, List.cons_append, List.nil_append, Nat.beq, gI_sI, gI_sL, gI_sA, gI_sM, gL_sI, gL_sL, gL_sA, gL_sM, aI_sI, aI_sL, aI_sA, aI_sM, aL_sI, aL_sL, aL_sA, aL_sM]
              try simp only [hR10.e2, hR10.e14, hR10.e15, hR10.e17, hR10.e18, hR10.e36, hR10.e42, hR10.e49, hR10.e62, hR10.a3, hR10.a6, hR10.a51, hR10.a19, hR10.a63, hR10.a64, hR10.hp]
              refine ⟨fun h12 => ⟨(by exact h12), ?_⟩, fun h12 => absurd h12 (by decide)⟩
              clear h12
              exact hW _ 2 [(0, .ref 1000), (1, .int 0)] [(0, .ref 1000), (1, .int 0)] _ _ _ _ _ _ (by simp [rdl, rky]) (by simp [rdl, rky]) (loop _ (by omega) _ _ 0 (by (repeat (first | exact hR10 | refine Rj.i ?_ rfl | refine Rj.a ?_ rfl | refine Rj.m ?_ | refine Rj.s ?_ (by decide) | refine Rj.o1 ?_ (by first | lia | (dsimp only [Nat.beq, gI_sI, gI_sL, gI_sA, gI_sM, gL_sI, gL_sL, gL_sA, gL_sM, aI_sI, aI_sL, aI_sA, aI_sM, aL_sI, aL_sL, aL_sA, aL_sM]; lia)) | refine Rj.o2 ?_ | refine Rj.f1 ?_ (by first | lia | (dsimp only [Nat.beq, gI_sI, gI_sL, gI_sA, gI_sM, gL_sI, gL_sL, gL_sA, gL_sM, aI_sI, aI_sL, aI_sA, aI_sM, aL_sI, aL_sL, aL_sA, aL_sM]; lia)) | refine Rj.f2 ?_ | refine Rj.fs ?_))) (by (repeat (first | exact Kx.rf | refine Kx.i ?_ rfl | refine Kx.a ?_ rfl | refine Kx.m ?_ | refine Kx.tr ?_ hE10.kx | refine Kx.tr ?_ hk5 | refine Kx.tr ?_ hk0))))
            · dsimp only [Option.toList, List.cons_append, List.nil_append, Nat.beq, gI_sI, gI_sL, gI_sA, gI_sM, gL_sI, gL_sL, gL_sA, gL_sM, aI_sI, aI_sL, aI_sA, aI_sM, aL_sI, aL_sL, aL_sA, aL_sM]
              try dsimp only [Nat.beq, gI_sI, gI_sL, gI_sA, gI_sM, gL_sI, gL_sL, gL_sA, gL_sM, aI_sI, aI_sL, aI_sA, aI_sM, aL_sI, aL_sL, aL_sA, aL_sM] at hf11
              try simp only [hR10.e2, hR10.e14, hR10.e15, hR10.e17, hR10.e18, hR10.e36, hR10.e42, hR10.e49, hR10.e62, hR10.a3, hR10.a6, hR10.a51, hR10.a19, hR10.a63, hR10.a64, hR10.hp]
              refine ⟨fun h13 => absurd h13 (by decide), fun h13 => ⟨(by exact h13), ?_⟩⟩
              clear h13
              refine hB _ _ _ _ _ _ _ _ (fun m14 hm14 => ?_)
              dsimp only [jgo, jwp, jst, jct, rfd, Bexps, Nat.beq, lv_args, rlk, rs1, rs2, rdl, rky, rcd, rno, rsw, Value.category, List.filter, List.take, List.drop, List.reverse, List.reverseAux, List.cons_append, List.nil_append, Option.toList, Int.toNat, Int.reduceToNat, if_pos, if_neg, reduceIte, ↓reduceIte, Nat.reduceAdd, Nat.reduceEqDiff, Nat.reduceBEq, beq_self_eq_true, Bool.not_true, Bool.not_false, Bool.and_true, Bool.and_false, Bool.true_and, Bool.false_and, gI_sI, gI_sL, gI_sA, gI_sM, gL_sI, gL_sL, gL_sA, gL_sM, aI_sI, aI_sL, aI_sA, aI_sM, aL_sI, aL_sL, aL_sA, aL_sM, Bexps_0, Bexps_2, Bexps_6, Bexps_13, Bexps_15, Bexps_30, Bexps_37, Bexps_39, oi_0, oi_1, oi_44, Pj_expression, Pj_isSign, Pu_pop, Pj_take]; try dsimp only
              try simp only [hR10.e2, hR10.e14, hR10.e15, hR10.e17, hR10.e18, hR10.e36, hR10.e42, hR10.e49, hR10.e62, hR10.a3, hR10.a6, hR10.a51, hR10.a19, hR10.a63, hR10.a64, hR10.hp]
              refine ⟨⟨(Rj.w (md := 1) (by (repeat (first | exact hR10 | refine Rj.i ?_ rfl | refine Rj.a ?_ rfl | refine Rj.m ?_ | refine Rj.s ?_ (by decide) | refine Rj.o1 ?_ (by first | lia | (dsimp only [Nat.beq, gI_sI, gI_sL, gI_sA, gI_sM, gL_sI, gL_sL, gL_sA, gL_sM, aI_sI, aI_sL, aI_sA, aI_sM, aL_sI, aL_sL, aL_sA, aL_sM]; lia)) | refine Rj.o2 ?_ | refine Rj.f1 ?_ (by first | lia | (dsimp only [Nat.beq, gI_sI, gI_sL, gI_sA, gI_sM, gL_sI, gL_sL, gL_sA, gL_sM, aI_sI, aI_sL, aI_sA, aI_sM, aL_sI, aL_sL, aL_sA, aL_sM]; lia)) | refine Rj.f2 ?_ | refine Rj.fs ?_)))), by lia, by lia⟩, fun w15 τ15 w15' τ15' hq15 => ?_⟩
              obtain ⟨b15, rfl, rfl, hb15⟩ := hq15
              rcases hb15 with rfl | ⟨rfl, hr15, hk15, hx15⟩
              · dsimp only [Option.toList, List.cons_append, List.nil_append, Nat.beq, gI_sI, gI_sL, gI_sA, gI_sM, gL_sI, gL_sL, gL_sA, gL_sM, aI_sI, aI_sL, aI_sA, aI_sM, aL_sI, aL_sL, aL_sA, aL_sM]
                try simp only [hR10.e2, hR10.e14, hR10.e15, hR10.e17, hR10.e18, hR10.e36, hR10.e42, hR10.e49, hR10.e62, hR10.a3, hR10.a6, hR10.a51, hR10.a19, hR10.a63, hR10.a64, hR10.hp]
                refine ⟨fun h16 => absurd h16 (by decide), fun h16 => ⟨(by exact h16), ?_⟩⟩
                clear h16
                refine hB _ _ _ _ _ _ _ _ (fun m17 hm17 => ?_)
                dsimp only [jgo, jwp, jst, jct, rfd, Bexps, Nat.beq, lv_args, rlk, rs1, rs2, rdl, rky, rcd, rno, rsw, Value.category, List.filter, List.take, List.drop, List.reverse, List.reverseAux, List.cons_append, List.nil_append, Option.toList, Int.toNat, Int.reduceToNat, if_pos, if_neg, reduceIte, ↓reduceIte, Nat.reduceAdd, Nat.reduceEqDiff, Nat.reduceBEq, beq_self_eq_true, Bool.not_true, Bool.not_false, Bool.and_true, Bool.and_false, Bool.true_and, Bool.false_and, gI_sI, gI_sL, gI_sA, gI_sM, gL_sI, gL_sL, gL_sA, gL_sM, aI_sI, aI_sL, aI_sA, aI_sM, aL_sI, aL_sL, aL_sA, aL_sM, Bexps_0, Bexps_2, Bexps_6, Bexps_13, Bexps_15, Bexps_30, Bexps_37, Bexps_39, oi_0, oi_1, oi_44, Pj_expression, Pj_isSign, Pu_pop, Pj_take]; try dsimp only
                try simp only [hR10.e2, hR10.e14, hR10.e15, hR10.e17, hR10.e18, hR10.e36, hR10.e42, hR10.e49, hR10.e62, hR10.a3, hR10.a6, hR10.a51, hR10.a19, hR10.a63, hR10.a64, hR10.hp]
                unfold Qj_exps
                try dsimp only
                exact ⟨_, rfl, rfl, Or.inl rfl⟩
              · dsimp only [Option.toList, List.cons_append, List.nil_append, Nat.beq, gI_sI, gI_sL, gI_sA, gI_sM, gL_sI, gL_sL, gL_sA, gL_sM, aI_sI, aI_sL, aI_sA, aI_sM, aL_sI, aL_sL, aL_sA, aL_sM]
                have hR15 : Rj 1 τ15 τ15' := hr15 _ (by (repeat (first | exact hR10 | refine Rj.i ?_ rfl | refine Rj.a ?_ rfl | refine Rj.m ?_ | refine Rj.s ?_ (by decide) | refine Rj.o1 ?_ (by first | lia | (dsimp only [Nat.beq, gI_sI, gI_sL, gI_sA, gI_sM, gL_sI, gL_sL, gL_sA, gL_sM, aI_sI, aI_sL, aI_sA, aI_sM, aL_sI, aL_sL, aL_sA, aL_sM]; lia)) | refine Rj.o2 ?_ | refine Rj.f1 ?_ (by first | lia | (dsimp only [Nat.beq, gI_sI, gI_sL, gI_sA, gI_sM, gL_sI, gL_sL, gL_sA, gL_sM, aI_sI, aI_sL, aI_sA, aI_sM, aL_sI, aL_sL, aL_sA, aL_sM]; lia)) | refine Rj.f2 ?_ | refine Rj.fs ?_)))
                have ht15 := hk15.2 3 rfl
                have hc15 := hk15.1 2 rfl
                try dsimp only [Nat.beq, gI_sI, gI_sL, gI_sA, gI_sM, gL_sI, gL_sL, gL_sA, gL_sM, aI_sI, aI_sL, aI_sA, aI_sM, aL_sI, aL_sL, aL_sA, aL_sM] at hx15
                try dsimp only [Nat.beq, gI_sI, gI_sL, gI_sA, gI_sM, gL_sI, gL_sL, gL_sA, gL_sM, aI_sI, aI_sL, aI_sA, aI_sM, aL_sI, aL_sL, aL_sA, aL_sM] at ht15
                try dsimp only [Nat.beq, gI_sI, gI_sL, gI_sA, gI_sM, gL_sI, gL_sL, gL_sA, gL_sM, aI_sI, aI_sL, aI_sA, aI_sM, aL_sI, aL_sL, aL_sA, aL_sM] at hc15
                have hh15 := hk15.1 62 rfl
                have hg15 := hk15.1 49 rfl
                try dsimp only [Nat.beq, gI_sI, gI_sL, gI_sA, gI_sM, gL_sI, gL_sL, gL_sA, gL_sM, aI_sI, aI_sL, aI_sA, aI_sM, aL_sI, aL_sL, aL_sA, aL_sM] at hh15
                try dsimp only [Nat.beq, gI_sI, gI_sL, gI_sA, gI_sM, gL_sI, gL_sL, gL_sA, gL_sM, aI_sI, aI_sL, aI_sA, aI_sM, aL_sI, aL_sL, aL_sA, aL_sM] at hg15
                have hz15 := congrFun ht15 (gI τ15 14).toNatClampNeg
                try simp only [hR15.e2, hR15.e14, hR15.e15, hR15.e17, hR15.e18, hR15.e36, hR15.e42, hR15.e49, hR15.e62, hR15.a3, hR15.a6, hR15.a51, hR15.a19, hR15.a63, hR15.a64, hR15.hp]
                refine ⟨fun h18 => ⟨(by exact h18), ?_⟩, fun h18 => absurd h18 (by decide)⟩
                clear h18
                exact hW _ 2 [(0, .ref 1000), (1, .int 1)] [(0, .ref 1000), (1, .int 1)] _ _ _ _ _ _ (by simp [rdl, rky]) (by simp [rdl, rky]) (loop _ (by omega) _ _ 1 (by (repeat (first | exact hR15 | refine Rj.i ?_ rfl | refine Rj.a ?_ rfl | refine Rj.m ?_ | refine Rj.s ?_ (by decide) | refine Rj.o1 ?_ (by first | lia | (dsimp only [Nat.beq, gI_sI, gI_sL, gI_sA, gI_sM, gL_sI, gL_sL, gL_sA, gL_sM, aI_sI, aI_sL, aI_sA, aI_sM, aL_sI, aL_sL, aL_sA, aL_sM]; lia)) | refine Rj.o2 ?_ | refine Rj.f1 ?_ (by first | lia | (dsimp only [Nat.beq, gI_sI, gI_sL, gI_sA, gI_sM, gL_sI, gL_sL, gL_sA, gL_sM, aI_sI, aI_sL, aI_sA, aI_sM, aL_sI, aL_sL, aL_sA, aL_sM]; lia)) | refine Rj.f2 ?_ | refine Rj.fs ?_))) (by (repeat (first | exact Kx.rf | refine Kx.i ?_ rfl | refine Kx.a ?_ rfl | refine Kx.m ?_ | refine Kx.tr ?_ hk15 | refine Kx.tr ?_ hE10.kx | refine Kx.tr ?_ hk5 | refine Kx.tr ?_ hk0))))
    intro n0
    refine hB _ _ _ _ _ _ _ _ (fun m1 hm1 => ?_)
    dsimp only [jgo, jwp, jst, jct, rfd, Bexps, Nat.beq, lv_args, rlk, rs1, rs2, rdl, rky, rcd, rno, rsw, Value.category, List.filter, List.take, List.drop, List.reverse, List.reverseAux, List.cons_append, List.nil_append, Option.toList, Int.toNat, Int.reduceToNat, if_pos, if_neg, reduceIte, ↓reduceIte, Nat.reduceAdd, Nat.reduceEqDiff, Nat.reduceBEq, beq_self_eq_true, Bool.not_true, Bool.not_false, Bool.and_true, Bool.and_false, Bool.true_and, Bool.false_and, gI_sI, gI_sL, gI_sA, gI_sM, gL_sI, gL_sL, gL_sA, gL_sM, aI_sI, aI_sL, aI_sA, aI_sM, aL_sI, aL_sL, aL_sA, aL_sM, Bexps_0, Bexps_2, Bexps_6, Bexps_13, Bexps_15, Bexps_30, Bexps_37, Bexps_39, oi_0, oi_1, oi_44, Pj_expression, Pj_isSign, Pu_pop, Pj_take]; try dsimp only
    try simp only [hR.e2, hR.e14, hR.e15, hR.e17, hR.e18, hR.e36, hR.e42, hR.e49, hR.e62, hR.a3, hR.a6, hR.a51, hR.a19, hR.a63, hR.a64, hR.hp]
    exact hW _ 2 [(0, .ref 1000), (1, .int 1)] [(0, .ref 1000), (1, .int 1)] _ _ _ _ _ _ (by simp [rdl, rky]) (by simp [rdl, rky]) (loop _ _ _ 1 hR Kx.rf)
  next => exact hP.elim
def Pj_ifOf : JPr := fun A1 A2 σ ρ => match A1, A2 with
  | [], [] => Rj 1 σ ρ ∧ aI σ 3 (gI σ 14).toNatClampNeg = 4
  | _, _ => False
def Qj_ifOf : JQr := fun A1 A2 σ ρ w τ w' τ' => match A1, A2 with
  | [], [] => ∃ b : Int32, w = some (.int b) ∧ w' = some (.int b) ∧ (b = 0 ∨ (b = 1 ∧ Rj 1 τ τ'))
  | _, _ => False
set_option maxRecDepth 100000 in
set_option maxHeartbeats 4000000 in
theorem j_ifOf : JMet 53 Pj_ifOf Qj_ifOf := by
  refine JMet.by BifOf [(52, Pj_condition, Qj_condition), (20, (fun A1 A2 σ ρ => Pu_emit A1 σ ∧ Pu_emit A2 ρ), (fun A1 A2 σ ρ w τ w' τ' => Qu_emit A1 σ w τ ∧ Qu_emit A2 ρ w' τ')), (36, Pj_open, Qj_open), (17, Pj_take, Qj_take), (35, (fun A1 A2 σ ρ => Pu_thing A1 σ ∧ Pu_thing A2 ρ), (fun A1 A2 σ ρ w τ w' τ' => Qu_thing A1 σ w τ ∧ Qu_thing A2 ρ w' τ'))] rfl (jcc j_condition (jcc (JMet.u u_emit) (jcc j_open (jcc j_take (jcc (JMet.u u_thing) jc0))))) ?_
  intro A1 A2 σ ρ hP K hB hW
  unfold Pj_ifOf at hP
  split at hP
  next =>
    obtain ⟨hR, htk⟩ := hP
    intro n0
    refine hB _ _ _ _ _ _ _ _ (fun m1 hm1 => ?_)
    dsimp only [jgo, jwp, jst, jct, rfd, BifOf, Nat.beq, lv_args, rlk, rs1, rs2, rdl, rky, rcd, rno, rsw, Value.category, List.filter, List.take, List.drop, List.reverse, List.reverseAux, List.cons_append, List.nil_append, Option.toList, Int.toNat, Int.reduceToNat, if_pos, if_neg, reduceIte, ↓reduceIte, Nat.reduceAdd, Nat.reduceEqDiff, Nat.reduceBEq, beq_self_eq_true, Bool.not_true, Bool.not_false, Bool.and_true, Bool.and_false, Bool.true_and, Bool.false_and, gI_sI, gI_sL, gI_sA, gI_sM, gL_sI, gL_sL, gL_sA, gL_sM, aI_sI, aI_sL, aI_sA, aI_sM, aL_sI, aL_sL, aL_sA, aL_sM, BifOf_0, BifOf_28, BifOf_35, BifOf_37, oi_0, oi_2, oi_20, oi_23, Pj_condition, Pu_emit, Pj_open, Pj_take, Pu_thing]; try dsimp only
    try simp only [hR.e2, hR.e14, hR.e15, hR.e17, hR.e18, hR.e36, hR.e42, hR.e49, hR.e62, hR.a3, hR.a6, hR.a51, hR.a19, hR.a63, hR.a64, hR.hp]
    refine ⟨⟨trivial, trivial⟩, fun w2 τ2 w2' τ2' hq2 => ?_⟩
    obtain ⟨⟨rfl, hE2⟩, rfl, hF2⟩ := hq2
    have hR2 : Rj 1 τ2 τ2' := Rj.em (by (repeat (first | exact hR | refine Rj.i ?_ rfl | refine Rj.a ?_ rfl | refine Rj.m ?_ | refine Rj.s ?_ (by decide) | refine Rj.o1 ?_ (by first | lia | (dsimp only [Nat.beq, gI_sI, gI_sL, gI_sA, gI_sM, gL_sI, gL_sL, gL_sA, gL_sM, aI_sI, aI_sL, aI_sA, aI_sM, aL_sI, aL_sL, aL_sA, aL_sM]; lia)) | refine Rj.o2 ?_ | refine Rj.f1 ?_ (by first | lia | (dsimp only [Nat.beq, gI_sI, gI_sL, gI_sA, gI_sM, gL_sI, gL_sL, gL_sA, gL_sM, aI_sI, aI_sL, aI_sA, aI_sM, aL_sI, aL_sL, aL_sA, aL_sM]; lia)) | refine Rj.f2 ?_ | refine Rj.fs ?_))) hE2 hF2 (by first | exact fun _ => rfl | exact fun q => absurd q (by decide))
    have hp2 := hE2.1 14 (by decide)
    have ho2 := hE2.1 29 (by decide)
    have hh2 := hE2.1 62 (by decide)
    have hg2 := hE2.1 49 (by decide)
    have hw2 := hE2.1 34 (by decide)
    have hv2 := hF2.1 34 (by decide)
    have ht2 := hE2.2.2.2.2.1 3 (by decide)
    try dsimp only [Nat.beq, gI_sI, gI_sL, gI_sA, gI_sM, gL_sI, gL_sL, gL_sA, gL_sM, aI_sI, aI_sL, aI_sA, aI_sM, aL_sI, aL_sL, aL_sA, aL_sM] at hp2
    try dsimp only [Nat.beq, gI_sI, gI_sL, gI_sA, gI_sM, gL_sI, gL_sL, gL_sA, gL_sM, aI_sI, aI_sL, aI_sA, aI_sM, aL_sI, aL_sL, aL_sA, aL_sM] at ho2
    try dsimp only [Nat.beq, gI_sI, gI_sL, gI_sA, gI_sM, gL_sI, gL_sL, gL_sA, gL_sM, aI_sI, aI_sL, aI_sA, aI_sM, aL_sI, aL_sL, aL_sA, aL_sM] at hh2
    try dsimp only [Nat.beq, gI_sI, gI_sL, gI_sA, gI_sM, gL_sI, gL_sL, gL_sA, gL_sM, aI_sI, aI_sL, aI_sA, aI_sM, aL_sI, aL_sL, aL_sA, aL_sM] at hg2
    try dsimp only [Nat.beq, gI_sI, gI_sL, gI_sA, gI_sM, gL_sI, gL_sL, gL_sA, gL_sM, aI_sI, aI_sL, aI_sA, aI_sM, aL_sI, aL_sL, aL_sA, aL_sM] at hw2
    try dsimp only [Nat.beq, gI_sI, gI_sL, gI_sA, gI_sM, gL_sI, gL_sL, gL_sA, gL_sM, aI_sI, aI_sL, aI_sA, aI_sM, aL_sI, aL_sL, aL_sA, aL_sM] at hv2
    try dsimp only [Nat.beq, gI_sI, gI_sL, gI_sA, gI_sM, gL_sI, gL_sL, gL_sA, gL_sM, aI_sI, aI_sL, aI_sA, aI_sM, aL_sI, aL_sL, aL_sA, aL_sM] at ht2
    have hz2 := congrFun ht2 (gI τ2 14).toNatClampNeg
    dsimp only [Option.toList, List.cons_append, List.nil_append, Nat.beq, gI_sI, gI_sL, gI_sA, gI_sM, gL_sI, gL_sL, gL_sA, gL_sM, aI_sI, aI_sL, aI_sA, aI_sM, aL_sI, aL_sL, aL_sA, aL_sM]
    try simp only [hR2.e2, hR2.e14, hR2.e15, hR2.e17, hR2.e18, hR2.e36, hR2.e42, hR2.e49, hR2.e62, hR2.a3, hR2.a6, hR2.a51, hR2.a19, hR2.a63, hR2.a64, hR2.hp, hR.e18]
    refine ⟨⟨trivial, trivial⟩, fun w3 τ3 w3' τ3' hq3 => ?_⟩
    obtain ⟨⟨rfl, hE3⟩, rfl, hF3⟩ := hq3
    have hR3 : Rj 1 τ3 τ3' := Rj.th (by (repeat (first | exact hR2 | refine Rj.i ?_ rfl | refine Rj.a ?_ rfl | refine Rj.m ?_ | refine Rj.s ?_ (by decide) | refine Rj.o1 ?_ (by first | lia | (dsimp only [Nat.beq, gI_sI, gI_sL, gI_sA, gI_sM, gL_sI, gL_sL, gL_sA, gL_sM, aI_sI, aI_sL, aI_sA, aI_sM, aL_sI, aL_sL, aL_sA, aL_sM]; lia)) | refine Rj.o2 ?_ | refine Rj.f1 ?_ (by first | lia | (dsimp only [Nat.beq, gI_sI, gI_sL, gI_sA, gI_sM, gL_sI, gL_sL, gL_sA, gL_sM, aI_sI, aI_sL, aI_sA, aI_sM, aL_sI, aL_sL, aL_sA, aL_sM]; lia)) | refine Rj.f2 ?_ | refine Rj.fs ?_))) hE3 hF3
    have hl3 := hE3.lt
    try dsimp only [Nat.beq, gI_sI, gI_sL, gI_sA, gI_sM, gL_sI, gL_sL, gL_sA, gL_sM, aI_sI, aI_sL, aI_sA, aI_sM, aL_sI, aL_sL, aL_sA, aL_sM] at hl3
    have hp3 := hE3.1 14 (by decide)
    have hh3 := hE3.1 62 (by decide)
    have ht3 := hE3.2.2.2.1 3 (by decide)
    try dsimp only [Nat.beq, gI_sI, gI_sL, gI_sA, gI_sM, gL_sI, gL_sL, gL_sA, gL_sM, aI_sI, aI_sL, aI_sA, aI_sM, aL_sI, aL_sL, aL_sA, aL_sM] at hp3
    try dsimp only [Nat.beq, gI_sI, gI_sL, gI_sA, gI_sM, gL_sI, gL_sL, gL_sA, gL_sM, aI_sI, aI_sL, aI_sA, aI_sM, aL_sI, aL_sL, aL_sA, aL_sM] at hh3
    try dsimp only [Nat.beq, gI_sI, gI_sL, gI_sA, gI_sM, gL_sI, gL_sL, gL_sA, gL_sM, aI_sI, aI_sL, aI_sA, aI_sM, aL_sI, aL_sL, aL_sA, aL_sM] at ht3
    have hz3 := congrFun ht3 (gI τ3 14).toNatClampNeg
    dsimp only [Option.toList, List.cons_append, List.nil_append, Nat.beq, gI_sI, gI_sL, gI_sA, gI_sM, gL_sI, gL_sL, gL_sA, gL_sM, aI_sI, aI_sL, aI_sA, aI_sM, aL_sI, aL_sL, aL_sA, aL_sM]
    try simp only [hR3.e2, hR3.e14, hR3.e15, hR3.e17, hR3.e18, hR3.e36, hR3.e42, hR3.e49, hR3.e62, hR3.a3, hR3.a6, hR3.a51, hR3.a19, hR3.a63, hR3.a64, hR3.hp, hR.e18, hR2.e49]
    refine ⟨⟨(Rj.w (md := 1) (by (repeat (first | exact hR3 | refine Rj.i ?_ rfl | refine Rj.a ?_ rfl | refine Rj.m ?_ | refine Rj.s ?_ (by decide) | refine Rj.o1 ?_ (by first | lia | (dsimp only [Nat.beq, gI_sI, gI_sL, gI_sA, gI_sM, gL_sI, gL_sL, gL_sA, gL_sM, aI_sI, aI_sL, aI_sA, aI_sM, aL_sI, aL_sL, aL_sA, aL_sM]; lia)) | refine Rj.o2 ?_ | refine Rj.f1 ?_ (by first | lia | (dsimp only [Nat.beq, gI_sI, gI_sL, gI_sA, gI_sM, gL_sI, gL_sL, gL_sA, gL_sM, aI_sI, aI_sL, aI_sA, aI_sM, aL_sI, aL_sL, aL_sA, aL_sM]; lia)) | refine Rj.f2 ?_ | refine Rj.fs ?_)))), by lia, by lia⟩, fun w4 τ4 w4' τ4' hq4 => ?_⟩
    obtain ⟨b4, rfl, rfl, hb4⟩ := hq4
    rcases hb4 with rfl | ⟨rfl, hr4, hk4, hx4⟩
    · dsimp only [Option.toList, List.cons_append, List.nil_append, Nat.beq, gI_sI, gI_sL, gI_sA, gI_sM, gL_sI, gL_sL, gL_sA, gL_sM, aI_sI, aI_sL, aI_sA, aI_sM, aL_sI, aL_sL, aL_sA, aL_sM]
      try simp only [hR3.e2, hR3.e14, hR3.e15, hR3.e17, hR3.e18, hR3.e36, hR3.e42, hR3.e49, hR3.e62, hR3.a3, hR3.a6, hR3.a51, hR3.a19, hR3.a63, hR3.a64, hR3.hp, hR.e18, hR2.e49]
      refine ⟨fun h5 => ⟨(by exact h5), ?_⟩, fun h5 => absurd h5 (by decide)⟩
      clear h5
      refine hB _ _ _ _ _ _ _ _ (fun m6 hm6 => ?_)
      dsimp only [jgo, jwp, jst, jct, rfd, BifOf, Nat.beq, lv_args, rlk, rs1, rs2, rdl, rky, rcd, rno, rsw, Value.category, List.filter, List.take, List.drop, List.reverse, List.reverseAux, List.cons_append, List.nil_append, Option.toList, Int.toNat, Int.reduceToNat, if_pos, if_neg, reduceIte, ↓reduceIte, Nat.reduceAdd, Nat.reduceEqDiff, Nat.reduceBEq, beq_self_eq_true, Bool.not_true, Bool.not_false, Bool.and_true, Bool.and_false, Bool.true_and, Bool.false_and, gI_sI, gI_sL, gI_sA, gI_sM, gL_sI, gL_sL, gL_sA, gL_sM, aI_sI, aI_sL, aI_sA, aI_sM, aL_sI, aL_sL, aL_sA, aL_sM, BifOf_0, BifOf_28, BifOf_35, BifOf_37, oi_0, oi_2, oi_20, oi_23, Pj_condition, Pu_emit, Pj_open, Pj_take, Pu_thing]; try dsimp only
      try simp only [hR3.e2, hR3.e14, hR3.e15, hR3.e17, hR3.e18, hR3.e36, hR3.e42, hR3.e49, hR3.e62, hR3.a3, hR3.a6, hR3.a51, hR3.a19, hR3.a63, hR3.a64, hR3.hp, hR.e18, hR2.e49]
      unfold Qj_ifOf
      try dsimp only
      exact ⟨_, rfl, rfl, Or.inl rfl⟩
    · dsimp only [Option.toList, List.cons_append, List.nil_append, Nat.beq, gI_sI, gI_sL, gI_sA, gI_sM, gL_sI, gL_sL, gL_sA, gL_sM, aI_sI, aI_sL, aI_sA, aI_sM, aL_sI, aL_sL, aL_sA, aL_sM]
      have hR4 : Rj 1 τ4 τ4' := hr4 _ (by (repeat (first | exact hR3 | refine Rj.i ?_ rfl | refine Rj.a ?_ rfl | refine Rj.m ?_ | refine Rj.s ?_ (by decide) | refine Rj.o1 ?_ (by first | lia | (dsimp only [Nat.beq, gI_sI, gI_sL, gI_sA, gI_sM, gL_sI, gL_sL, gL_sA, gL_sM, aI_sI, aI_sL, aI_sA, aI_sM, aL_sI, aL_sL, aL_sA, aL_sM]; lia)) | refine Rj.o2 ?_ | refine Rj.f1 ?_ (by first | lia | (dsimp only [Nat.beq, gI_sI, gI_sL, gI_sA, gI_sM, gL_sI, gL_sL, gL_sA, gL_sM, aI_sI, aI_sL, aI_sA, aI_sM, aL_sI, aL_sL, aL_sA, aL_sM]; lia)) | refine Rj.f2 ?_ | refine Rj.fs ?_)))
      have ht4 := hk4.2 3 rfl
      have hc4 := hk4.1 2 rfl
      try dsimp only [Nat.beq, gI_sI, gI_sL, gI_sA, gI_sM, gL_sI, gL_sL, gL_sA, gL_sM, aI_sI, aI_sL, aI_sA, aI_sM, aL_sI, aL_sL, aL_sA, aL_sM] at hx4
      try dsimp only [Nat.beq, gI_sI, gI_sL, gI_sA, gI_sM, gL_sI, gL_sL, gL_sA, gL_sM, aI_sI, aI_sL, aI_sA, aI_sM, aL_sI, aL_sL, aL_sA, aL_sM] at ht4
      try dsimp only [Nat.beq, gI_sI, gI_sL, gI_sA, gI_sM, gL_sI, gL_sL, gL_sA, gL_sM, aI_sI, aI_sL, aI_sA, aI_sM, aL_sI, aL_sL, aL_sA, aL_sM] at hc4
      have hh4 := hk4.1 62 rfl
      have hg4 := hk4.1 49 rfl
      try dsimp only [Nat.beq, gI_sI, gI_sL, gI_sA, gI_sM, gL_sI, gL_sL, gL_sA, gL_sM, aI_sI, aI_sL, aI_sA, aI_sM, aL_sI, aL_sL, aL_sA, aL_sM] at hh4
      try dsimp only [Nat.beq, gI_sI, gI_sL, gI_sA, gI_sM, gL_sI, gL_sL, gL_sA, gL_sM, aI_sI, aI_sL, aI_sA, aI_sM, aL_sI, aL_sL, aL_sA, aL_sM] at hg4
      have hz4 := congrFun ht4 (gI τ4 14).toNatClampNeg
      try simp only [hR4.e2, hR4.e14, hR4.e15, hR4.e17, hR4.e18, hR4.e36, hR4.e42, hR4.e49, hR4.e62, hR4.a3, hR4.a6, hR4.a51, hR4.a19, hR4.a63, hR4.a64, hR4.hp, hR.e18, hR2.e49]
      refine ⟨fun h7 => absurd h7 (by decide), fun h7 => ⟨(by exact h7), ?_⟩⟩
      clear h7
      refine hB _ _ _ _ _ _ _ _ (fun m8 hm8 => ?_)
      dsimp only [jgo, jwp, jst, jct, rfd, BifOf, Nat.beq, lv_args, rlk, rs1, rs2, rdl, rky, rcd, rno, rsw, Value.category, List.filter, List.take, List.drop, List.reverse, List.reverseAux, List.cons_append, List.nil_append, Option.toList, Int.toNat, Int.reduceToNat, if_pos, if_neg, reduceIte, ↓reduceIte, Nat.reduceAdd, Nat.reduceEqDiff, Nat.reduceBEq, beq_self_eq_true, Bool.not_true, Bool.not_false, Bool.and_true, Bool.and_false, Bool.true_and, Bool.false_and, gI_sI, gI_sL, gI_sA, gI_sM, gL_sI, gL_sL, gL_sA, gL_sM, aI_sI, aI_sL, aI_sA, aI_sM, aL_sI, aL_sL, aL_sA, aL_sM, BifOf_0, BifOf_28, BifOf_35, BifOf_37, oi_0, oi_2, oi_20, oi_23, Pj_condition, Pu_emit, Pj_open, Pj_take, Pu_thing]; try dsimp only
      try simp only [hR4.e2, hR4.e14, hR4.e15, hR4.e17, hR4.e18, hR4.e36, hR4.e42, hR4.e49, hR4.e62, hR4.a3, hR4.a6, hR4.a51, hR4.a19, hR4.a63, hR4.a64, hR4.hp, hR.e18, hR2.e49]
      refine ⟨(by (repeat (first | exact hR4 | refine Rj.i ?_ rfl | refine Rj.a ?_ rfl | refine Rj.m ?_ | refine Rj.s ?_ (by decide) | refine Rj.o1 ?_ (by first | lia | (dsimp only [Nat.beq, gI_sI, gI_sL, gI_sA, gI_sM, gL_sI, gL_sL, gL_sA, gL_sM, aI_sI, aI_sL, aI_sA, aI_sM, aL_sI, aL_sL, aL_sA, aL_sM]; lia)) | refine Rj.o2 ?_ | refine Rj.f1 ?_ (by first | lia | (dsimp only [Nat.beq, gI_sI, gI_sL, gI_sA, gI_sM, gL_sI, gL_sL, gL_sA, gL_sM, aI_sI, aI_sL, aI_sA, aI_sM, aL_sI, aL_sL, aL_sA, aL_sM]; lia)) | refine Rj.f2 ?_ | refine Rj.fs ?_))), fun w9 τ9 w9' τ9' hq9 => ?_⟩
      obtain ⟨b9, rfl, rfl, hb9⟩ := hq9
      rcases hb9 with rfl | ⟨rfl, hR9, hk9⟩
      · dsimp only [Option.toList, List.cons_append, List.nil_append, Nat.beq, gI_sI, gI_sL, gI_sA, gI_sM, gL_sI, gL_sL, gL_sA, gL_sM, aI_sI, aI_sL, aI_sA, aI_sM, aL_sI, aL_sL, aL_sA, aL_sM]
        try simp only [hR4.e2, hR4.e14, hR4.e15, hR4.e17, hR4.e18, hR4.e36, hR4.e42, hR4.e49, hR4.e62, hR4.a3, hR4.a6, hR4.a51, hR4.a19, hR4.a63, hR4.a64, hR4.hp, hR.e18, hR2.e49]
        refine ⟨fun h10 => absurd h10 (by decide), fun h10 => ⟨(by exact h10), ?_⟩⟩
        clear h10
        refine hB _ _ _ _ _ _ _ _ (fun m11 hm11 => ?_)
        dsimp only [jgo, jwp, jst, jct, rfd, BifOf, Nat.beq, lv_args, rlk, rs1, rs2, rdl, rky, rcd, rno, rsw, Value.category, List.filter, List.take, List.drop, List.reverse, List.reverseAux, List.cons_append, List.nil_append, Option.toList, Int.toNat, Int.reduceToNat, if_pos, if_neg, reduceIte, ↓reduceIte, Nat.reduceAdd, Nat.reduceEqDiff, Nat.reduceBEq, beq_self_eq_true, Bool.not_true, Bool.not_false, Bool.and_true, Bool.and_false, Bool.true_and, Bool.false_and, gI_sI, gI_sL, gI_sA, gI_sM, gL_sI, gL_sL, gL_sA, gL_sM, aI_sI, aI_sL, aI_sA, aI_sM, aL_sI, aL_sL, aL_sA, aL_sM, BifOf_0, BifOf_28, BifOf_35, BifOf_37, oi_0, oi_2, oi_20, oi_23, Pj_condition, Pu_emit, Pj_open, Pj_take, Pu_thing]; try dsimp only
        try simp only [hR4.e2, hR4.e14, hR4.e15, hR4.e17, hR4.e18, hR4.e36, hR4.e42, hR4.e49, hR4.e62, hR4.a3, hR4.a6, hR4.a51, hR4.a19, hR4.a63, hR4.a64, hR4.hp, hR.e18, hR2.e49]
        unfold Qj_ifOf
        try dsimp only
        exact ⟨_, rfl, rfl, Or.inl rfl⟩
      · dsimp only [Option.toList, List.cons_append, List.nil_append, Nat.beq, gI_sI, gI_sL, gI_sA, gI_sM, gL_sI, gL_sL, gL_sA, gL_sM, aI_sI, aI_sL, aI_sA, aI_sM, aL_sI, aL_sL, aL_sA, aL_sM]
        have hh9 := hk9.1 62 rfl
        have hg9 := hk9.1 49 rfl
        try dsimp only [Nat.beq, gI_sI, gI_sL, gI_sA, gI_sM, gL_sI, gL_sL, gL_sA, gL_sM, aI_sI, aI_sL, aI_sA, aI_sM, aL_sI, aL_sL, aL_sA, aL_sM] at hh9
        try dsimp only [Nat.beq, gI_sI, gI_sL, gI_sA, gI_sM, gL_sI, gL_sL, gL_sA, gL_sM, aI_sI, aI_sL, aI_sA, aI_sM, aL_sI, aL_sL, aL_sA, aL_sM] at hg9
        try simp only [hR9.e2, hR9.e14, hR9.e15, hR9.e17, hR9.e18, hR9.e36, hR9.e42, hR9.e49, hR9.e62, hR9.a3, hR9.a6, hR9.a51, hR9.a19, hR9.a63, hR9.a64, hR9.hp, hR.e18, hR2.e49]
        refine ⟨fun h12 => ⟨(by exact h12), ?_⟩, fun h12 => absurd h12 (by decide)⟩
        clear h12
        refine hB _ _ _ _ _ _ _ _ (fun m13 hm13 => ?_)
        dsimp only [jgo, jwp, jst, jct, rfd, BifOf, Nat.beq, lv_args, rlk, rs1, rs2, rdl, rky, rcd, rno, rsw, Value.category, List.filter, List.take, List.drop, List.reverse, List.reverseAux, List.cons_append, List.nil_append, Option.toList, Int.toNat, Int.reduceToNat, if_pos, if_neg, reduceIte, ↓reduceIte, Nat.reduceAdd, Nat.reduceEqDiff, Nat.reduceBEq, beq_self_eq_true, Bool.not_true, Bool.not_false, Bool.and_true, Bool.and_false, Bool.true_and, Bool.false_and, gI_sI, gI_sL, gI_sA, gI_sM, gL_sI, gL_sL, gL_sA, gL_sM, aI_sI, aI_sL, aI_sA, aI_sM, aL_sI, aL_sL, aL_sA, aL_sM, BifOf_0, BifOf_28, BifOf_35, BifOf_37, oi_0, oi_2, oi_20, oi_23, Pj_condition, Pu_emit, Pj_open, Pj_take, Pu_thing]; try dsimp only
        try simp only [hR9.e2, hR9.e14, hR9.e15, hR9.e17, hR9.e18, hR9.e36, hR9.e42, hR9.e49, hR9.e62, hR9.a3, hR9.a6, hR9.a51, hR9.a19, hR9.a63, hR9.a64, hR9.hp, hR.e18, hR2.e49]
        refine ⟨⟨trivial, trivial⟩, fun w14 τ14 w14' τ14' hq14 => ?_⟩
        obtain ⟨⟨rfl, hE14⟩, rfl, hF14⟩ := hq14
        have hR14 : Rj 1 τ14 τ14' := Rj.em (by (repeat (first | exact hR9 | refine Rj.i ?_ rfl | refine Rj.a ?_ rfl | refine Rj.m ?_ | refine Rj.s ?_ (by decide) | refine Rj.o1 ?_ (by first | lia | (dsimp only [Nat.beq, gI_sI, gI_sL, gI_sA, gI_sM, gL_sI, gL_sL, gL_sA, gL_sM, aI_sI, aI_sL, aI_sA, aI_sM, aL_sI, aL_sL, aL_sA, aL_sM]; lia)) | refine Rj.o2 ?_ | refine Rj.f1 ?_ (by first | lia | (dsimp only [Nat.beq, gI_sI, gI_sL, gI_sA, gI_sM, gL_sI, gL_sL, gL_sA, gL_sM, aI_sI, aI_sL, aI_sA, aI_sM, aL_sI, aL_sL, aL_sA, aL_sM]; lia)) | refine Rj.f2 ?_ | refine Rj.fs ?_))) hE14 hF14 (by first | exact fun _ => rfl | exact fun q => absurd q (by decide))
        have hp14 := hE14.1 14 (by decide)
        have ho14 := hE14.1 29 (by decide)
        have hh14 := hE14.1 62 (by decide)
        have hg14 := hE14.1 49 (by decide)
        have hw14 := hE14.1 34 (by decide)
        have hv14 := hF14.1 34 (by decide)
        have ht14 := hE14.2.2.2.2.1 3 (by decide)
        try dsimp only [Nat.beq, gI_sI, gI_sL, gI_sA, gI_sM, gL_sI, gL_sL, gL_sA, gL_sM, aI_sI, aI_sL, aI_sA, aI_sM, aL_sI, aL_sL, aL_sA, aL_sM] at hp14
        try dsimp only [Nat.beq, gI_sI, gI_sL, gI_sA, gI_sM, gL_sI, gL_sL, gL_sA, gL_sM, aI_sI, aI_sL, aI_sA, aI_sM, aL_sI, aL_sL, aL_sA, aL_sM] at ho14
        try dsimp only [Nat.beq, gI_sI, gI_sL, gI_sA, gI_sM, gL_sI, gL_sL, gL_sA, gL_sM, aI_sI, aI_sL, aI_sA, aI_sM, aL_sI, aL_sL, aL_sA, aL_sM] at hh14
        try dsimp only [Nat.beq, gI_sI, gI_sL, gI_sA, gI_sM, gL_sI, gL_sL, gL_sA, gL_sM, aI_sI, aI_sL, aI_sA, aI_sM, aL_sI, aL_sL, aL_sA, aL_sM] at hg14
        try dsimp only [Nat.beq, gI_sI, gI_sL, gI_sA, gI_sM, gL_sI, gL_sL, gL_sA, gL_sM, aI_sI, aI_sL, aI_sA, aI_sM, aL_sI, aL_sL, aL_sA, aL_sM] at hw14
        try dsimp only [Nat.beq, gI_sI, gI_sL, gI_sA, gI_sM, gL_sI, gL_sL, gL_sA, gL_sM, aI_sI, aI_sL, aI_sA, aI_sM, aL_sI, aL_sL, aL_sA, aL_sM] at hv14
        try dsimp only [Nat.beq, gI_sI, gI_sL, gI_sA, gI_sM, gL_sI, gL_sL, gL_sA, gL_sM, aI_sI, aI_sL, aI_sA, aI_sM, aL_sI, aL_sL, aL_sA, aL_sM] at ht14
        have hz14 := congrFun ht14 (gI τ14 14).toNatClampNeg
        dsimp only [Option.toList, List.cons_append, List.nil_append, Nat.beq, gI_sI, gI_sL, gI_sA, gI_sM, gL_sI, gL_sL, gL_sA, gL_sM, aI_sI, aI_sL, aI_sA, aI_sM, aL_sI, aL_sL, aL_sA, aL_sM]
        try simp only [hR14.e2, hR14.e14, hR14.e15, hR14.e17, hR14.e18, hR14.e36, hR14.e42, hR14.e49, hR14.e62, hR14.a3, hR14.a6, hR14.a51, hR14.a19, hR14.a63, hR14.a64, hR14.hp, hR.e18, hR2.e49, hR9.e18]
        refine ⟨⟨(by (repeat (first | exact hR14 | refine Rj.i ?_ rfl | refine Rj.a ?_ rfl | refine Rj.m ?_ | refine Rj.s ?_ (by decide) | refine Rj.o1 ?_ (by first | lia | (dsimp only [Nat.beq, gI_sI, gI_sL, gI_sA, gI_sM, gL_sI, gL_sL, gL_sA, gL_sM, aI_sI, aI_sL, aI_sA, aI_sM, aL_sI, aL_sL, aL_sA, aL_sM]; lia)) | refine Rj.o2 ?_ | refine Rj.f1 ?_ (by first | lia | (dsimp only [Nat.beq, gI_sI, gI_sL, gI_sA, gI_sM, gL_sI, gL_sL, gL_sA, gL_sM, aI_sI, aI_sL, aI_sA, aI_sM, aL_sI, aL_sL, aL_sA, aL_sM]; lia)) | refine Rj.f2 ?_ | refine Rj.fs ?_))), (by first | exact True.intro | rfl), (by first | exact True.intro | rfl), by lia⟩, fun w15 τ15 w15' τ15' hq15 => ?_⟩
        obtain ⟨b15, rfl, rfl, hb15⟩ := hq15
        rcases hb15 with rfl | ⟨rfl, hR15⟩
        · dsimp only [Option.toList, List.cons_append, List.nil_append, Nat.beq, gI_sI, gI_sL, gI_sA, gI_sM, gL_sI, gL_sL, gL_sA, gL_sM, aI_sI, aI_sL, aI_sA, aI_sM, aL_sI, aL_sL, aL_sA, aL_sM]
          try simp only [hR14.e2, hR14.e14, hR14.e15, hR14.e17, hR14.e18, hR14.e36, hR14.e42, hR14.e49, hR14.e62, hR14.a3, hR14.a6, hR14.a51, hR14.a19, hR14.a63, hR14.a64, hR14.hp, hR.e18, hR2.e49, hR9.e18]
          unfold Qj_ifOf
          try dsimp only
          exact ⟨_, rfl, rfl, Or.inl rfl⟩
        · dsimp only [Option.toList, List.cons_append, List.nil_append, Nat.beq, gI_sI, gI_sL, gI_sA, gI_sM, gL_sI, gL_sL, gL_sA, gL_sM, aI_sI, aI_sL, aI_sA, aI_sM, aL_sI, aL_sL, aL_sA, aL_sM]
          try simp only [hR15.e2, hR15.e14, hR15.e15, hR15.e17, hR15.e18, hR15.e36, hR15.e42, hR15.e49, hR15.e62, hR15.a3, hR15.a6, hR15.a51, hR15.a19, hR15.a63, hR15.a64, hR15.hp, hR.e18, hR2.e49, hR9.e18]
          unfold Qj_ifOf
          try dsimp only
          exact ⟨_, rfl, rfl, Or.inr ⟨rfl, by (repeat (first | exact hR15 | refine Rj.i ?_ rfl | refine Rj.a ?_ rfl | refine Rj.m ?_ | refine Rj.s ?_ (by decide) | refine Rj.o1 ?_ (by first | lia | (dsimp only [Nat.beq, gI_sI, gI_sL, gI_sA, gI_sM, gL_sI, gL_sL, gL_sA, gL_sM, aI_sI, aI_sL, aI_sA, aI_sM, aL_sI, aL_sL, aL_sA, aL_sM]; lia)) | refine Rj.o2 ?_ | refine Rj.f1 ?_ (by first | lia | (dsimp only [Nat.beq, gI_sI, gI_sL, gI_sA, gI_sM, gL_sI, gL_sL, gL_sA, gL_sM, aI_sI, aI_sL, aI_sA, aI_sM, aL_sI, aL_sL, aL_sA, aL_sM]; lia)) | refine Rj.f2 ?_ | refine Rj.fs ?_))⟩⟩
  next => exact hP.elim
def Pj_whileOf : JPr := fun A1 A2 σ ρ => match A1, A2 with
  | [], [] => Rj 1 σ ρ ∧ aI σ 3 (gI σ 14).toNatClampNeg = 4
  | _, _ => False
def Qj_whileOf : JQr := fun A1 A2 σ ρ w τ w' τ' => match A1, A2 with
  | [], [] => ∃ b : Int32, w = some (.int b) ∧ w' = some (.int b) ∧ (b = 0 ∨ (b = 1 ∧ Rj 1 τ τ'))
  | _, _ => False
set_option maxRecDepth 100000 in
set_option maxHeartbeats 4000000 in
theorem j_whileOf : JMet 54 Pj_whileOf Qj_whileOf := by
  refine JMet.by BwhileOf [(52, Pj_condition, Qj_condition), (20, (fun A1 A2 σ ρ => Pu_emit A1 σ ∧ Pu_emit A2 ρ), (fun A1 A2 σ ρ w τ w' τ' => Qu_emit A1 σ w τ ∧ Qu_emit A2 ρ w' τ')), (36, Pj_open, Qj_open), (17, Pj_take, Qj_take), (35, (fun A1 A2 σ ρ => Pu_thing A1 σ ∧ Pu_thing A2 ρ), (fun A1 A2 σ ρ w τ w' τ' => Qu_thing A1 σ w τ ∧ Qu_thing A2 ρ w' τ'))] rfl (jcc j_condition (jcc (JMet.u u_emit) (jcc j_open (jcc j_take (jcc (JMet.u u_thing) jc0))))) ?_
  intro A1 A2 σ ρ hP K hB hW
  unfold Pj_whileOf at hP
  split at hP
  next =>
    obtain ⟨hR, htk⟩ := hP
    intro n0
    refine hB _ _ _ _ _ _ _ _ (fun m1 hm1 => ?_)
    dsimp only [jgo, jwp, jst, jct, rfd, BwhileOf, Nat.beq, lv_args, rlk, rs1, rs2, rdl, rky, rcd, rno, rsw, Value.category, List.filter, List.take, List.drop, List.reverse, List.reverseAux, List.cons_append, List.nil_append, Option.toList, Int.toNat, Int.reduceToNat, if_pos, if_neg, reduceIte, ↓reduceIte, Nat.reduceAdd, Nat.reduceEqDiff, Nat.reduceBEq, beq_self_eq_true, Bool.not_true, Bool.not_false, Bool.and_true, Bool.and_false, Bool.true_and, Bool.false_and, gI_sI, gI_sL, gI_sA, gI_sM, gL_sI, gL_sL, gL_sA, gL_sM, aI_sI, aI_sL, aI_sA, aI_sM, aL_sI, aL_sL, aL_sA, aL_sM, BwhileOf_0, BwhileOf_37, BwhileOf_44, BwhileOf_46, oi_0, oi_20, oi_26, oi_27, oi_4, Pj_condition, Pu_emit, Pj_open, Pj_take, Pu_thing]; try dsimp only
    try simp only [hR.e2, hR.e14, hR.e15, hR.e17, hR.e18, hR.e36, hR.e42, hR.e49, hR.e62, hR.a3, hR.a6, hR.a51, hR.a19, hR.a63, hR.a64, hR.hp]
    refine ⟨⟨trivial, trivial⟩, fun w2 τ2 w2' τ2' hq2 => ?_⟩
    obtain ⟨⟨rfl, hE2⟩, rfl, hF2⟩ := hq2
    have hR2 : Rj 1 τ2 τ2' := Rj.em (by (repeat (first | exact hR | refine Rj.i ?_ rfl | refine Rj.a ?_ rfl | refine Rj.m ?_ | refine Rj.s ?_ (by decide) | refine Rj.o1 ?_ (by first | lia | (dsimp only [Nat.beq, gI_sI, gI_sL, gI_sA, gI_sM, gL_sI, gL_sL, gL_sA, gL_sM, aI_sI, aI_sL, aI_sA, aI_sM, aL_sI, aL_sL, aL_sA, aL_sM]; lia)) | refine Rj.o2 ?_ | refine Rj.f1 ?_ (by first | lia | (dsimp only [Nat.beq, gI_sI, gI_sL, gI_sA, gI_sM, gL_sI, gL_sL, gL_sA, gL_sM, aI_sI, aI_sL, aI_sA, aI_sM, aL_sI, aL_sL, aL_sA, aL_sM]; lia)) | refine Rj.f2 ?_ | refine Rj.fs ?_))) hE2 hF2 (by first | exact fun _ => rfl | exact fun q => absurd q (by decide))
    have hp2 := hE2.1 14 (by decide)
    have ho2 := hE2.1 29 (by decide)
    have hh2 := hE2.1 62 (by decide)
    have hg2 := hE2.1 49 (by decide)
    have hw2 := hE2.1 34 (by decide)
    have hv2 := hF2.1 34 (by decide)
    have ht2 := hE2.2.2.2.2.1 3 (by decide)
    try dsimp only [Nat.beq, gI_sI, gI_sL, gI_sA, gI_sM, gL_sI, gL_sL, gL_sA, gL_sM, aI_sI, aI_sL, aI_sA, aI_sM, aL_sI, aL_sL, aL_sA, aL_sM] at hp2
    try dsimp only [Nat.beq, gI_sI, gI_sL, gI_sA, gI_sM, gL_sI, gL_sL, gL_sA, gL_sM, aI_sI, aI_sL, aI_sA, aI_sM, aL_sI, aL_sL, aL_sA, aL_sM] at ho2
    try dsimp only [Nat.beq, gI_sI, gI_sL, gI_sA, gI_sM, gL_sI, gL_sL, gL_sA, gL_sM, aI_sI, aI_sL, aI_sA, aI_sM, aL_sI, aL_sL, aL_sA, aL_sM] at hh2
    try dsimp only [Nat.beq, gI_sI, gI_sL, gI_sA, gI_sM, gL_sI, gL_sL, gL_sA, gL_sM, aI_sI, aI_sL, aI_sA, aI_sM, aL_sI, aL_sL, aL_sA, aL_sM] at hg2
    try dsimp only [Nat.beq, gI_sI, gI_sL, gI_sA, gI_sM, gL_sI, gL_sL, gL_sA, gL_sM, aI_sI, aI_sL, aI_sA, aI_sM, aL_sI, aL_sL, aL_sA, aL_sM] at hw2
    try dsimp only [Nat.beq, gI_sI, gI_sL, gI_sA, gI_sM, gL_sI, gL_sL, gL_sA, gL_sM, aI_sI, aI_sL, aI_sA, aI_sM, aL_sI, aL_sL, aL_sA, aL_sM] at hv2
    try dsimp only [Nat.beq, gI_sI, gI_sL, gI_sA, gI_sM, gL_sI, gL_sL, gL_sA, gL_sM, aI_sI, aI_sL, aI_sA, aI_sM, aL_sI, aL_sL, aL_sA, aL_sM] at ht2
    have hz2 := congrFun ht2 (gI τ2 14).toNatClampNeg
    dsimp only [Option.toList, List.cons_append, List.nil_append, Nat.beq, gI_sI, gI_sL, gI_sA, gI_sM, gL_sI, gL_sL, gL_sA, gL_sM, aI_sI, aI_sL, aI_sA, aI_sM, aL_sI, aL_sL, aL_sA, aL_sM]
    try simp only [hR2.e2, hR2.e14, hR2.e15, hR2.e17, hR2.e18, hR2.e36, hR2.e42, hR2.e49, hR2.e62, hR2.a3, hR2.a6, hR2.a51, hR2.a19, hR2.a63, hR2.a64, hR2.hp, hR.e18]
    refine ⟨⟨trivial, trivial⟩, fun w3 τ3 w3' τ3' hq3 => ?_⟩
    obtain ⟨⟨rfl, hE3⟩, rfl, hF3⟩ := hq3
    have hR3 : Rj 1 τ3 τ3' := Rj.th (by (repeat (first | exact hR2 | refine Rj.i ?_ rfl | refine Rj.a ?_ rfl | refine Rj.m ?_ | refine Rj.s ?_ (by decide) | refine Rj.o1 ?_ (by first | lia | (dsimp only [Nat.beq, gI_sI, gI_sL, gI_sA, gI_sM, gL_sI, gL_sL, gL_sA, gL_sM, aI_sI, aI_sL, aI_sA, aI_sM, aL_sI, aL_sL, aL_sA, aL_sM]; lia)) | refine Rj.o2 ?_ | refine Rj.f1 ?_ (by first | lia | (dsimp only [Nat.beq, gI_sI, gI_sL, gI_sA, gI_sM, gL_sI, gL_sL, gL_sA, gL_sM, aI_sI, aI_sL, aI_sA, aI_sM, aL_sI, aL_sL, aL_sA, aL_sM]; lia)) | refine Rj.f2 ?_ | refine Rj.fs ?_))) hE3 hF3
    have hl3 := hE3.lt
    try dsimp only [Nat.beq, gI_sI, gI_sL, gI_sA, gI_sM, gL_sI, gL_sL, gL_sA, gL_sM, aI_sI, aI_sL, aI_sA, aI_sM, aL_sI, aL_sL, aL_sA, aL_sM] at hl3
    have hp3 := hE3.1 14 (by decide)
    have hh3 := hE3.1 62 (by decide)
    have ht3 := hE3.2.2.2.1 3 (by decide)
    try dsimp only [Nat.beq, gI_sI, gI_sL, gI_sA, gI_sM, gL_sI, gL_sL, gL_sA, gL_sM, aI_sI, aI_sL, aI_sA, aI_sM, aL_sI, aL_sL, aL_sA, aL_sM] at hp3
    try dsimp only [Nat.beq, gI_sI, gI_sL, gI_sA, gI_sM, gL_sI, gL_sL, gL_sA, gL_sM, aI_sI, aI_sL, aI_sA, aI_sM, aL_sI, aL_sL, aL_sA, aL_sM] at hh3
    try dsimp only [Nat.beq, gI_sI, gI_sL, gI_sA, gI_sM, gL_sI, gL_sL, gL_sA, gL_sM, aI_sI, aI_sL, aI_sA, aI_sM, aL_sI, aL_sL, aL_sA, aL_sM] at ht3
    have hz3 := congrFun ht3 (gI τ3 14).toNatClampNeg
    dsimp only [Option.toList, List.cons_append, List.nil_append, Nat.beq, gI_sI, gI_sL, gI_sA, gI_sM, gL_sI, gL_sL, gL_sA, gL_sM, aI_sI, aI_sL, aI_sA, aI_sM, aL_sI, aL_sL, aL_sA, aL_sM]
    try simp only [hR3.e2, hR3.e14, hR3.e15, hR3.e17, hR3.e18, hR3.e36, hR3.e42, hR3.e49, hR3.e62, hR3.a3, hR3.a6, hR3.a51, hR3.a19, hR3.a63, hR3.a64, hR3.hp, hR.e18, hR2.e49]
    refine ⟨⟨trivial, trivial⟩, fun w4 τ4 w4' τ4' hq4 => ?_⟩
    obtain ⟨⟨rfl, hE4⟩, rfl, hF4⟩ := hq4
    have hR4 : Rj 1 τ4 τ4' := Rj.em (by (repeat (first | exact hR3 | refine Rj.i ?_ rfl | refine Rj.a ?_ rfl | refine Rj.m ?_ | refine Rj.s ?_ (by decide) | refine Rj.o1 ?_ (by first | lia | (dsimp only [Nat.beq, gI_sI, gI_sL, gI_sA, gI_sM, gL_sI, gL_sL, gL_sA, gL_sM, aI_sI, aI_sL, aI_sA, aI_sM, aL_sI, aL_sL, aL_sA, aL_sM]; lia)) | refine Rj.o2 ?_ | refine Rj.f1 ?_ (by first | lia | (dsimp only [Nat.beq, gI_sI, gI_sL, gI_sA, gI_sM, gL_sI, gL_sL, gL_sA, gL_sM, aI_sI, aI_sL, aI_sA, aI_sM, aL_sI, aL_sL, aL_sA, aL_sM]; lia)) | refine Rj.f2 ?_ | refine Rj.fs ?_))) hE4 hF4 (by first | exact fun _ => rfl | exact fun q => absurd q (by decide))
    have hp4 := hE4.1 14 (by decide)
    have ho4 := hE4.1 29 (by decide)
    have hh4 := hE4.1 62 (by decide)
    have hg4 := hE4.1 49 (by decide)
    have hw4 := hE4.1 34 (by decide)
    have hv4 := hF4.1 34 (by decide)
    have ht4 := hE4.2.2.2.2.1 3 (by decide)
    try dsimp only [Nat.beq, gI_sI, gI_sL, gI_sA, gI_sM, gL_sI, gL_sL, gL_sA, gL_sM, aI_sI, aI_sL, aI_sA, aI_sM, aL_sI, aL_sL, aL_sA, aL_sM] at hp4
    try dsimp only [Nat.beq, gI_sI, gI_sL, gI_sA, gI_sM, gL_sI, gL_sL, gL_sA, gL_sM, aI_sI, aI_sL, aI_sA, aI_sM, aL_sI, aL_sL, aL_sA, aL_sM] at ho4
    try dsimp only [Nat.beq, gI_sI, gI_sL, gI_sA, gI_sM, gL_sI, gL_sL, gL_sA, gL_sM, aI_sI, aI_sL, aI_sA, aI_sM, aL_sI, aL_sL, aL_sA, aL_sM] at hh4
    try dsimp only [Nat.beq, gI_sI, gI_sL, gI_sA, gI_sM, gL_sI, gL_sL, gL_sA, gL_sM, aI_sI, aI_sL, aI_sA, aI_sM, aL_sI, aL_sL, aL_sA, aL_sM] at hg4
    try dsimp only [Nat.beq, gI_sI, gI_sL, gI_sA, gI_sM, gL_sI, gL_sL, gL_sA, gL_sM, aI_sI, aI_sL, aI_sA, aI_sM, aL_sI, aL_sL, aL_sA, aL_sM] at hw4
    try dsimp only [Nat.beq, gI_sI, gI_sL, gI_sA, gI_sM, gL_sI, gL_sL, gL_sA, gL_sM, aI_sI, aI_sL, aI_sA, aI_sM, aL_sI, aL_sL, aL_sA, aL_sM] at hv4
    try dsimp only [Nat.beq, gI_sI, gI_sL, gI_sA, gI_sM, gL_sI, gL_sL, gL_sA, gL_sM, aI_sI, aI_sL, aI_sA, aI_sM, aL_sI, aL_sL, aL_sA, aL_sM] at ht4
    have hz4 := congrFun ht4 (gI τ4 14).toNatClampNeg
    dsimp only [Option.toList, List.cons_append, List.nil_append, Nat.beq, gI_sI, gI_sL, gI_sA, gI_sM, gL_sI, gL_sL, gL_sA, gL_sM, aI_sI, aI_sL, aI_sA, aI_sM, aL_sI, aL_sL, aL_sA, aL_sM]
    try simp only [hR4.e2, hR4.e14, hR4.e15, hR4.e17, hR4.e18, hR4.e36, hR4.e42, hR4.e49, hR4.e62, hR4.a3, hR4.a6, hR4.a51, hR4.a19, hR4.a63, hR4.a64, hR4.hp, hR.e18, hR2.e49, hR3.e18]
    refine ⟨⟨(Rj.w (md := 1) (by (repeat (first | exact hR4 | refine Rj.i ?_ rfl | refine Rj.a ?_ rfl | refine Rj.m ?_ | refine Rj.s ?_ (by decide) | refine Rj.o1 ?_ (by first | lia | (dsimp only [Nat.beq, gI_sI, gI_sL, gI_sA, gI_sM, gL_sI, gL_sL, gL_sA, gL_sM, aI_sI, aI_sL, aI_sA, aI_sM, aL_sI, aL_sL, aL_sA, aL_sM]; lia)) | refine Rj.o2 ?_ | refine Rj.f1 ?_ (by first | lia | (dsimp only [Nat.beq, gI_sI, gI_sL, gI_sA, gI_sM, gL_sI, gL_sL, gL_sA, gL_sM, aI_sI, aI_sL, aI_sA, aI_sM, aL_sI, aL_sL, aL_sA, aL_sM]; lia)) | refine Rj.f2 ?_ | refine Rj.fs ?_)))), by lia, by lia⟩, fun w5 τ5 w5' τ5' hq5 => ?_⟩
    obtain ⟨b5, rfl, rfl, hb5⟩ := hq5
    rcases hb5 with rfl | ⟨rfl, hr5, hk5, hx5⟩
    · dsimp only [Option.toList, List.cons_append, List.nil_append, Nat.beq, gI_sI, gI_sL, gI_sA, gI_sM, gL_sI, gL_sL, gL_sA, gL_sM, aI_sI, aI_sL, aI_sA, aI_sM, aL_sI, aL_sL, aL_sA, aL_sM]
      try simp only [hR4.e2, hR4.e14, hR4.e15, hR4.e17, hR4.e18, hR4.e36, hR4.e42, hR4.e49, hR4.e62, hR4.a3, hR4.a6, hR4.a51, hR4.a19, hR4.a63, hR4.a64, hR4.hp, hR.e18, hR2.e49, hR3.e18]
      refine ⟨fun h6 => ⟨(by exact h6), ?_⟩, fun h6 => absurd h6 (by decide)⟩
      clear h6
      refine hB _ _ _ _ _ _ _ _ (fun m7 hm7 => ?_)
      dsimp only [jgo, jwp, jst, jct, rfd, BwhileOf, Nat.beq, lv_args, rlk, rs1, rs2, rdl, rky, rcd, rno, rsw, Value.category, List.filter, List.take, List.drop, List.reverse, List.reverseAux, List.cons_append, List.nil_append, Option.toList, Int.toNat, Int.reduceToNat, if_pos, if_neg, reduceIte, ↓reduceIte, Nat.reduceAdd, Nat.reduceEqDiff, Nat.reduceBEq, beq_self_eq_true, Bool.not_true, Bool.not_false, Bool.and_true, Bool.and_false, Bool.true_and, Bool.false_and, gI_sI, gI_sL, gI_sA, gI_sM, gL_sI, gL_sL, gL_sA, gL_sM, aI_sI, aI_sL, aI_sA, aI_sM, aL_sI, aL_sL, aL_sA, aL_sM, BwhileOf_0, BwhileOf_37, BwhileOf_44, BwhileOf_46, oi_0, oi_20, oi_26, oi_27, oi_4, Pj_condition, Pu_emit, Pj_open, Pj_take, Pu_thing]; try dsimp only
      try simp only [hR4.e2, hR4.e14, hR4.e15, hR4.e17, hR4.e18, hR4.e36, hR4.e42, hR4.e49, hR4.e62, hR4.a3, hR4.a6, hR4.a51, hR4.a19, hR4.a63, hR4.a64, hR4.hp, hR.e18, hR2.e49, hR3.e18]
      unfold Qj_whileOf
      try dsimp only
      exact ⟨_, rfl, rfl, Or.inl rfl⟩
    · dsimp only [Option.toList, List.cons_append, List.nil_append, Nat.beq, gI_sI, gI_sL, gI_sA, gI_sM, gL_sI, gL_sL, gL_sA, gL_sM, aI_sI, aI_sL, aI_sA, aI_sM, aL_sI, aL_sL, aL_sA, aL_sM]
      have hR5 : Rj 1 τ5 τ5' := hr5 _ (by (repeat (first | exact hR4 | refine Rj.i ?_ rfl | refine Rj.a ?_ rfl | refine Rj.m ?_ | refine Rj.s ?_ (by decide) | refine Rj.o1 ?_ (by first | lia | (dsimp only [Nat.beq, gI_sI, gI_sL, gI_sA, gI_sM, gL_sI, gL_sL, gL_sA, gL_sM, aI_sI, aI_sL, aI_sA, aI_sM, aL_sI, aL_sL, aL_sA, aL_sM]; lia)) | refine Rj.o2 ?_ | refine Rj.f1 ?_ (by first | lia | (dsimp only [Nat.beq, gI_sI, gI_sL, gI_sA, gI_sM, gL_sI, gL_sL, gL_sA, gL_sM, aI_sI, aI_sL, aI_sA, aI_sM, aL_sI, aL_sL, aL_sA, aL_sM]; lia)) | refine Rj.f2 ?_ | refine Rj.fs ?_)))
      have ht5 := hk5.2 3 rfl
      have hc5 := hk5.1 2 rfl
      try dsimp only [Nat.beq, gI_sI, gI_sL, gI_sA, gI_sM, gL_sI, gL_sL, gL_sA, gL_sM, aI_sI, aI_sL, aI_sA, aI_sM, aL_sI, aL_sL, aL_sA, aL_sM] at hx5
      try dsimp only [Nat.beq, gI_sI, gI_sL, gI_sA, gI_sM, gL_sI, gL_sL, gL_sA, gL_sM, aI_sI, aI_sL, aI_sA, aI_sM, aL_sI, aL_sL, aL_sA, aL_sM] at ht5
      try dsimp only [Nat.beq, gI_sI, gI_sL, gI_sA, gI_sM, gL_sI, gL_sL, gL_sA, gL_sM, aI_sI, aI_sL, aI_sA, aI_sM, aL_sI, aL_sL, aL_sA, aL_sM] at hc5
      have hh5 := hk5.1 62 rfl
      have hg5 := hk5.1 49 rfl
      try dsimp only [Nat.beq, gI_sI, gI_sL, gI_sA, gI_sM, gL_sI, gL_sL, gL_sA, gL_sM, aI_sI, aI_sL, aI_sA, aI_sM, aL_sI, aL_sL, aL_sA, aL_sM] at hh5
      try dsimp only [Nat.beq, gI_sI, gI_sL, gI_sA, gI_sM, gL_sI, gL_sL, gL_sA, gL_sM, aI_sI, aI_sL, aI_sA, aI_sM, aL_sI, aL_sL, aL_sA, aL_sM] at hg5
      have hz5 := congrFun ht5 (gI τ5 14).toNatClampNeg
      try simp only [hR5.e2, hR5.e14, hR5.e15, hR5.e17, hR5.e18, hR5.e36, hR5.e42, hR5.e49, hR5.e62, hR5.a3, hR5.a6, hR5.a51, hR5.a19, hR5.a63, hR5.a64, hR5.hp, hR.e18, hR2.e49, hR3.e18]
      refine ⟨fun h8 => absurd h8 (by decide), fun h8 => ⟨(by exact h8), ?_⟩⟩
      clear h8
      refine hB _ _ _ _ _ _ _ _ (fun m9 hm9 => ?_)
      dsimp only [jgo, jwp, jst, jct, rfd, BwhileOf, Nat.beq, lv_args, rlk, rs1, rs2, rdl, rky, rcd, rno, rsw, Value.category, List.filter, List.take, List.drop, List.reverse, List.reverseAux, List.cons_append, List.nil_append, Option.toList, Int.toNat, Int.reduceToNat, if_pos, if_neg, reduceIte, ↓reduceIte, Nat.reduceAdd, Nat.reduceEqDiff, Nat.reduceBEq, beq_self_eq_true, Bool.not_true, Bool.not_false, Bool.and_true, Bool.and_false, Bool.true_and, Bool.false_and, gI_sI, gI_sL, gI_sA, gI_sM, gL_sI, gL_sL, gL_sA, gL_sM, aI_sI, aI_sL, aI_sA, aI_sM, aL_sI, aL_sL, aL_sA, aL_sM, BwhileOf_0, BwhileOf_37, BwhileOf_44, BwhileOf_46, oi_0, oi_20, oi_26, oi_27, oi_4, Pj_condition, Pu_emit, Pj_open, Pj_take, Pu_thing]; try dsimp only
      try simp only [hR5.e2, hR5.e14, hR5.e15, hR5.e17, hR5.e18, hR5.e36, hR5.e42, hR5.e49, hR5.e62, hR5.a3, hR5.a6, hR5.a51, hR5.a19, hR5.a63, hR5.a64, hR5.hp, hR.e18, hR2.e49, hR3.e18]
      refine ⟨(by (repeat (first | exact hR5 | refine Rj.i ?_ rfl | refine Rj.a ?_ rfl | refine Rj.m ?_ | refine Rj.s ?_ (by decide) | refine Rj.o1 ?_ (by first | lia | (dsimp only [Nat.beq, gI_sI, gI_sL, gI_sA, gI_sM, gL_sI, gL_sL, gL_sA, gL_sM, aI_sI, aI_sL, aI_sA, aI_sM, aL_sI, aL_sL, aL_sA, aL_sM]; lia)) | refine Rj.o2 ?_ | refine Rj.f1 ?_ (by first | lia | (dsimp only [Nat.beq, gI_sI, gI_sL, gI_sA, gI_sM, gL_sI, gL_sL, gL_sA, gL_sM, aI_sI, aI_sL, aI_sA, aI_sM, aL_sI, aL_sL, aL_sA, aL_sM]; lia)) | refine Rj.f2 ?_ | refine Rj.fs ?_))), fun w10 τ10 w10' τ10' hq10 => ?_⟩
      obtain ⟨b10, rfl, rfl, hb10⟩ := hq10
      rcases hb10 with rfl | ⟨rfl, hR10, hk10⟩
      · dsimp only [Option.toList, List.cons_append, List.nil_append, Nat.beq, gI_sI, gI_sL, gI_sA, gI_sM, gL_sI, gL_sL, gL_sA, gL_sM, aI_sI, aI_sL, aI_sA, aI_sM, aL_sI, aL_sL, aL_sA, aL_sM]
        try simp only [hR5.e2, hR5.e14, hR5.e15, hR5.e17, hR5.e18, hR5.e36, hR5.e42, hR5.e49, hR5.e62, hR5.a3, hR5.a6, hR5.a51, hR5.a19, hR5.a63, hR5.a64, hR5.hp, hR.e18, hR2.e49, hR3.e18]
        refine ⟨fun h11 => absurd h11 (by decide), fun h11 => ⟨(by exact h11), ?_⟩⟩
        clear h11
        refine hB _ _ _ _ _ _ _ _ (fun m12 hm12 => ?_)
        dsimp only [jgo, jwp, jst, jct, rfd, BwhileOf, Nat.beq, lv_args, rlk, rs1, rs2, rdl, rky, rcd, rno, rsw, Value.category, List.filter, List.take, List.drop, List.reverse, List.reverseAux, List.cons_append, List.nil_append, Option.toList, Int.toNat, Int.reduceToNat, if_pos, if_neg, reduceIte, ↓reduceIte, Nat.reduceAdd, Nat.reduceEqDiff, Nat.reduceBEq, beq_self_eq_true, Bool.not_true, Bool.not_false, Bool.and_true, Bool.and_false, Bool.true_and, Bool.false_and, gI_sI, gI_sL, gI_sA, gI_sM, gL_sI, gL_sL, gL_sA, gL_sM, aI_sI, aI_sL, aI_sA, aI_sM, aL_sI, aL_sL, aL_sA, aL_sM, BwhileOf_0, BwhileOf_37, BwhileOf_44, BwhileOf_46, oi_0, oi_20, oi_26, oi_27, oi_4, Pj_condition, Pu_emit, Pj_open, Pj_take, Pu_thing]; try dsimp only
        try simp only [hR5.e2, hR5.e14, hR5.e15, hR5.e17, hR5.e18, hR5.e36, hR5.e42, hR5.e49, hR5.e62, hR5.a3, hR5.a6, hR5.a51, hR5.a19, hR5.a63, hR5.a64, hR5.hp, hR.e18, hR2.e49, hR3.e18]
        unfold Qj_whileOf
        try dsimp only
        exact ⟨_, rfl, rfl, Or.inl rfl⟩
      · dsimp only [Option.toList, List.cons_append, List.nil_append, Nat.beq, gI_sI, gI_sL, gI_sA, gI_sM, gL_sI, gL_sL, gL_sA, gL_sM, aI_sI, aI_sL, aI_sA, aI_sM, aL_sI, aL_sL, aL_sA, aL_sM]
        have hh10 := hk10.1 62 rfl
        have hg10 := hk10.1 49 rfl
        try dsimp only [Nat.beq, gI_sI, gI_sL, gI_sA, gI_sM, gL_sI, gL_sL, gL_sA, gL_sM, aI_sI, aI_sL, aI_sA, aI_sM, aL_sI, aL_sL, aL_sA, aL_sM] at hh10
        try dsimp only [Nat.beq, gI_sI, gI_sL, gI_sA, gI_sM, gL_sI, gL_sL, gL_sA, gL_sM, aI_sI, aI_sL, aI_sA, aI_sM, aL_sI, aL_sL, aL_sA, aL_sM] at hg10
        try simp only [hR10.e2, hR10.e14, hR10.e15, hR10.e17, hR10.e18, hR10.e36, hR10.e42, hR10.e49, hR10.e62, hR10.a3, hR10.a6, hR10.a51, hR10.a19, hR10.a63, hR10.a64, hR10.hp, hR.e18, hR2.e49, hR3.e18]
        refine ⟨fun h13 => ⟨(by exact h13), ?_⟩, fun h13 => absurd h13 (by decide)⟩
        clear h13
        refine hB _ _ _ _ _ _ _ _ (fun m14 hm14 => ?_)
        dsimp only [jgo, jwp, jst, jct, rfd, BwhileOf, Nat.beq, lv_args, rlk, rs1, rs2, rdl, rky, rcd, rno, rsw, Value.category, List.filter, List.take, List.drop, List.reverse, List.reverseAux, List.cons_append, List.nil_append, Option.toList, Int.toNat, Int.reduceToNat, if_pos, if_neg, reduceIte, ↓reduceIte, Nat.reduceAdd, Nat.reduceEqDiff, Nat.reduceBEq, beq_self_eq_true, Bool.not_true, Bool.not_false, Bool.and_true, Bool.and_false, Bool.true_and, Bool.false_and, gI_sI, gI_sL, gI_sA, gI_sM, gL_sI, gL_sL, gL_sA, gL_sM, aI_sI, aI_sL, aI_sA, aI_sM, aL_sI, aL_sL, aL_sA, aL_sM, BwhileOf_0, BwhileOf_37, BwhileOf_44, BwhileOf_46, oi_0, oi_20, oi_26, oi_27, oi_4, Pj_condition, Pu_emit, Pj_open, Pj_take, Pu_thing]; try dsimp only
        try simp only [hR10.e2, hR10.e14, hR10.e15, hR10.e17, hR10.e18, hR10.e36, hR10.e42, hR10.e49, hR10.e62, hR10.a3, hR10.a6, hR10.a51, hR10.a19, hR10.a63, hR10.a64, hR10.hp, hR.e18, hR2.e49, hR3.e18]
        refine ⟨⟨trivial, trivial⟩, fun w15 τ15 w15' τ15' hq15 => ?_⟩
        obtain ⟨⟨rfl, hE15⟩, rfl, hF15⟩ := hq15
        have hR15 : Rj 1 τ15 τ15' := Rj.em (by (repeat (first | exact hR10 | refine Rj.i ?_ rfl | refine Rj.a ?_ rfl | refine Rj.m ?_ | refine Rj.s ?_ (by decide) | refine Rj.o1 ?_ (by first | lia | (dsimp only [Nat.beq, gI_sI, gI_sL, gI_sA, gI_sM, gL_sI, gL_sL, gL_sA, gL_sM, aI_sI, aI_sL, aI_sA, aI_sM, aL_sI, aL_sL, aL_sA, aL_sM]; lia)) | refine Rj.o2 ?_ | refine Rj.f1 ?_ (by first | lia | (dsimp only [Nat.beq, gI_sI, gI_sL, gI_sA, gI_sM, gL_sI, gL_sL, gL_sA, gL_sM, aI_sI, aI_sL, aI_sA, aI_sM, aL_sI, aL_sL, aL_sA, aL_sM]; lia)) | refine Rj.f2 ?_ | refine Rj.fs ?_))) hE15 hF15 (by first | exact fun _ => rfl | exact fun q => absurd q (by decide))
        have hp15 := hE15.1 14 (by decide)
        have ho15 := hE15.1 29 (by decide)
        have hh15 := hE15.1 62 (by decide)
        have hg15 := hE15.1 49 (by decide)
        have hw15 := hE15.1 34 (by decide)
        have hv15 := hF15.1 34 (by decide)
        have ht15 := hE15.2.2.2.2.1 3 (by decide)
        try dsimp only [Nat.beq, gI_sI, gI_sL, gI_sA, gI_sM, gL_sI, gL_sL, gL_sA, gL_sM, aI_sI, aI_sL, aI_sA, aI_sM, aL_sI, aL_sL, aL_sA, aL_sM] at hp15
        try dsimp only [Nat.beq, gI_sI, gI_sL, gI_sA, gI_sM, gL_sI, gL_sL, gL_sA, gL_sM, aI_sI, aI_sL, aI_sA, aI_sM, aL_sI, aL_sL, aL_sA, aL_sM] at ho15
        try dsimp only [Nat.beq, gI_sI, gI_sL, gI_sA, gI_sM, gL_sI, gL_sL, gL_sA, gL_sM, aI_sI, aI_sL, aI_sA, aI_sM, aL_sI, aL_sL, aL_sA, aL_sM] at hh15
        try dsimp only [Nat.beq, gI_sI, gI_sL, gI_sA, gI_sM, gL_sI, gL_sL, gL_sA, gL_sM, aI_sI, aI_sL, aI_sA, aI_sM, aL_sI, aL_sL, aL_sA, aL_sM] at hg15
        try dsimp only [Nat.beq, gI_sI, gI_sL, gI_sA, gI_sM, gL_sI, gL_sL, gL_sA, gL_sM, aI_sI, aI_sL, aI_sA, aI_sM, aL_sI, aL_sL, aL_sA, aL_sM] at hw15
        try dsimp only [Nat.beq, gI_sI, gI_sL, gI_sA, gI_sM, gL_sI, gL_sL, gL_sA, gL_sM, aI_sI, aI_sL, aI_sA, aI_sM, aL_sI, aL_sL, aL_sA, aL_sM] at hv15
        try dsimp only [Nat.beq, gI_sI, gI_sL, gI_sA, gI_sM, gL_sI, gL_sL, gL_sA, gL_sM, aI_sI, aI_sL, aI_sA, aI_sM, aL_sI, aL_sL, aL_sA, aL_sM] at ht15
        have hz15 := congrFun ht15 (gI τ15 14).toNatClampNeg
        dsimp only [Option.toList, List.cons_append, List.nil_append, Nat.beq, gI_sI, gI_sL, gI_sA, gI_sM, gL_sI, gL_sL, gL_sA, gL_sM, aI_sI, aI_sL, aI_sA, aI_sM, aL_sI, aL_sL, aL_sA, aL_sM]
        try simp only [hR15.e2, hR15.e14, hR15.e15, hR15.e17, hR15.e18, hR15.e36, hR15.e42, hR15.e49, hR15.e62, hR15.a3, hR15.a6, hR15.a51, hR15.a19, hR15.a63, hR15.a64, hR15.hp, hR.e18, hR2.e49, hR3.e18, hR10.e18]
        intro p16 q16
        try simp only [hR15.e2, hR15.e14, hR15.e15, hR15.e17, hR15.e18, hR15.e36, hR15.e42, hR15.e49, hR15.e62, hR15.a3, hR15.a6, hR15.a51, hR15.a19, hR15.a63, hR15.a64, hR15.hp, hR.e18, hR2.e49, hR3.e18, hR10.e18]
        refine ⟨⟨(by (repeat (first | exact hR15 | refine Rj.i ?_ rfl | refine Rj.a ?_ rfl | refine Rj.m ?_ | refine Rj.s ?_ (by decide) | refine Rj.o1 ?_ (by first | lia | (dsimp only [Nat.beq, gI_sI, gI_sL, gI_sA, gI_sM, gL_sI, gL_sL, gL_sA, gL_sM, aI_sI, aI_sL, aI_sA, aI_sM, aL_sI, aL_sL, aL_sA, aL_sM]; lia)) | refine Rj.o2 ?_ | refine Rj.f1 ?_ (by first | lia | (dsimp only [Nat.beq, gI_sI, gI_sL, gI_sA, gI_sM, gL_sI, gL_sL, gL_sA, gL_sM, aI_sI, aI_sL, aI_sA, aI_sM, aL_sI, aL_sL, aL_sA, aL_sM]; lia)) | refine Rj.f2 ?_ | refine Rj.fs ?_))), (by first | exact True.intro | rfl), (by first | exact True.intro | rfl), by lia⟩, fun w17 τ17 w17' τ17' hq17 => ?_⟩
        obtain ⟨b17, rfl, rfl, hb17⟩ := hq17
        rcases hb17 with rfl | ⟨rfl, hR17⟩
        · dsimp only [Option.toList, List.cons_append, List.nil_append, Nat.beq, gI_sI, gI_sL, gI_sA, gI_sM, gL_sI, gL_sL, gL_sA, gL_sM, aI_sI, aI_sL, aI_sA, aI_sM, aL_sI, aL_sL, aL_sA, aL_sM]
          try simp only [hR15.e2, hR15.e14, hR15.e15, hR15.e17, hR15.e18, hR15.e36, hR15.e42, hR15.e49, hR15.e62, hR15.a3, hR15.a6, hR15.a51, hR15.a19, hR15.a63, hR15.a64, hR15.hp, hR.e18, hR2.e49, hR3.e18, hR10.e18]
          unfold Qj_whileOf
          try dsimp only
          exact ⟨_, rfl, rfl, Or.inl rfl⟩
        · dsimp only [Option.toList, List.cons_append, List.nil_append, Nat.beq, gI_sI, gI_sL, gI_sA, gI_sM, gL_sI, gL_sL, gL_sA, gL_sM, aI_sI, aI_sL, aI_sA, aI_sM, aL_sI, aL_sL, aL_sA, aL_sM]
          try simp only [hR17.e2, hR17.e14, hR17.e15, hR17.e17, hR17.e18, hR17.e36, hR17.e42, hR17.e49, hR17.e62, hR17.a3, hR17.a6, hR17.a51, hR17.a19, hR17.a63, hR17.a64, hR17.hp, hR.e18, hR2.e49, hR3.e18, hR10.e18]
          unfold Qj_whileOf
          try dsimp only
          exact ⟨_, rfl, rfl, Or.inr ⟨rfl, by (repeat (first | exact hR17 | refine Rj.i ?_ rfl | refine Rj.a ?_ rfl | refine Rj.m ?_ | refine Rj.s ?_ (by decide) | refine Rj.o1 ?_ (by first | lia | (dsimp only [Nat.beq, gI_sI, gI_sL, gI_sA, gI_sM, gL_sI, gL_sL, gL_sA, gL_sM, aI_sI, aI_sL, aI_sA, aI_sM, aL_sI, aL_sL, aL_sA, aL_sM]; lia)) | refine Rj.o2 ?_ | refine Rj.f1 ?_ (by first | lia | (dsimp only [Nat.beq, gI_sI, gI_sL, gI_sA, gI_sM, gL_sI, gL_sL, gL_sA, gL_sM, aI_sI, aI_sL, aI_sA, aI_sM, aL_sI, aL_sL, aL_sA, aL_sM]; lia)) | refine Rj.f2 ?_ | refine Rj.fs ?_))⟩⟩
  next => exact hP.elim
def Pj_doOf : JPr := fun A1 A2 σ ρ => match A1, A2 with
  | [], [] => Rj 1 σ ρ ∧ aI σ 3 (gI σ 14).toNatClampNeg = 4
  | _, _ => False
def Qj_doOf : JQr := fun A1 A2 σ ρ w τ w' τ' => match A1, A2 with
  | [], [] => ∃ b : Int32, w = some (.int b) ∧ w' = some (.int b) ∧ (b = 0 ∨ (b = 1 ∧ Rj 1 τ τ'))
  | _, _ => False
set_option maxRecDepth 100000 in
set_option maxHeartbeats 4000000 in
theorem j_doOf : JMet 55 Pj_doOf Qj_doOf := by
  refine JMet.by BdoOf [(20, (fun A1 A2 σ ρ => Pu_emit A1 σ ∧ Pu_emit A2 ρ), (fun A1 A2 σ ρ w τ w' τ' => Qu_emit A1 σ w τ ∧ Qu_emit A2 ρ w' τ')), (36, Pj_open, Qj_open), (17, Pj_take, Qj_take), (35, (fun A1 A2 σ ρ => Pu_thing A1 σ ∧ Pu_thing A2 ρ), (fun A1 A2 σ ρ w τ w' τ' => Qu_thing A1 σ w τ ∧ Qu_thing A2 ρ w' τ'))] rfl (jcc (JMet.u u_emit) (jcc j_open (jcc j_take (jcc (JMet.u u_thing) jc0)))) ?_
  intro A1 A2 σ ρ hP K hB hW
  unfold Pj_doOf at hP
  split at hP
  next =>
    obtain ⟨hR, htk⟩ := hP
    intro n0
    refine hB _ _ _ _ _ _ _ _ (fun m1 hm1 => ?_)
    dsimp only [jgo, jwp, jst, jct, rfd, BdoOf, Nat.beq, lv_args, rlk, rs1, rs2, rdl, rky, rcd, rno, rsw, Value.category, List.filter, List.take, List.drop, List.reverse, List.reverseAux, List.cons_append, List.nil_append, Option.toList, Int.toNat, Int.reduceToNat, if_pos, if_neg, reduceIte, ↓reduceIte, Nat.reduceAdd, Nat.reduceEqDiff, Nat.reduceBEq, beq_self_eq_true, Bool.not_true, Bool.not_false, Bool.and_true, Bool.and_false, Bool.true_and, Bool.false_and, gI_sI, gI_sL, gI_sA, gI_sM, gL_sI, gL_sL, gL_sA, gL_sM, aI_sI, aI_sL, aI_sA, aI_sM, aL_sI, aL_sL, aL_sA, aL_sM, BdoOf_0, BdoOf_37, BdoOf_47, BdoOf_51, BdoOf_52, oi_0, oi_1, oi_20, oi_29, oi_5, Pu_emit, Pj_open, Pj_take, Pu_thing]; try dsimp only
    try simp only [hR.e2, hR.e14, hR.e15, hR.e17, hR.e18, hR.e36, hR.e42, hR.e49, hR.e62, hR.a3, hR.a6, hR.a51, hR.a19, hR.a63, hR.a64, hR.hp]
    refine ⟨⟨trivial, trivial⟩, fun w2 τ2 w2' τ2' hq2 => ?_⟩
    obtain ⟨⟨rfl, hE2⟩, rfl, hF2⟩ := hq2
    have hR2 : Rj 1 τ2 τ2' := Rj.em (by (repeat (first | exact hR | refine Rj.i ?_ rfl | refine Rj.a ?_ rfl | refine Rj.m ?_ | refine Rj.s ?_ (by decide) | refine Rj.o1 ?_ (by first | lia | (dsimp only [Nat.beq, gI_sI, gI_sL, gI_sA, gI_sM, gL_sI, gL_sL, gL_sA, gL_sM, aI_sI, aI_sL, aI_sA, aI_sM, aL_sI, aL_sL, aL_sA, aL_sM]; lia)) | refine Rj.o2 ?_ | refine Rj.f1 ?_ (by first | lia | (dsimp only [Nat.beq, gI_sI, gI_sL, gI_sA, gI_sM, gL_sI, gL_sL, gL_sA, gL_sM, aI_sI, aI_sL, aI_sA, aI_sM, aL_sI, aL_sL, aL_sA, aL_sM]; lia)) | refine Rj.f2 ?_ | refine Rj.fs ?_))) hE2 hF2 (by first | exact fun _ => rfl | exact fun q => absurd q (by decide))
    have hp2 := hE2.1 14 (by decide)
    have ho2 := hE2.1 29 (by decide)
    have hh2 := hE2.1 62 (by decide)
    have hg2 := hE2.1 49 (by decide)
    have hw2 := hE2.1 34 (by decide)
    have hv2 := hF2.1 34 (by decide)
    have ht2 := hE2.2.2.2.2.1 3 (by decide)
    try dsimp only [Nat.beq, gI_sI, gI_sL, gI_sA, gI_sM, gL_sI, gL_sL, gL_sA, gL_sM, aI_sI, aI_sL, aI_sA, aI_sM, aL_sI, aL_sL, aL_sA, aL_sM] at hp2
    try dsimp only [Nat.beq, gI_sI, gI_sL, gI_sA, gI_sM, gL_sI, gL_sL, gL_sA, gL_sM, aI_sI, aI_sL, aI_sA, aI_sM, aL_sI, aL_sL, aL_sA, aL_sM] at ho2
    try dsimp only [Nat.beq, gI_sI, gI_sL, gI_sA, gI_sM, gL_sI, gL_sL, gL_sA, gL_sM, aI_sI, aI_sL, aI_sA, aI_sM, aL_sI, aL_sL, aL_sA, aL_sM] at hh2
    try dsimp only [Nat.beq, gI_sI, gI_sL, gI_sA, gI_sM, gL_sI, gL_sL, gL_sA, gL_sM, aI_sI, aI_sL, aI_sA, aI_sM, aL_sI, aL_sL, aL_sA, aL_sM] at hg2
    try dsimp only [Nat.beq, gI_sI, gI_sL, gI_sA, gI_sM, gL_sI, gL_sL, gL_sA, gL_sM, aI_sI, aI_sL, aI_sA, aI_sM, aL_sI, aL_sL, aL_sA, aL_sM] at hw2
    try dsimp only [Nat.beq, gI_sI, gI_sL, gI_sA, gI_sM, gL_sI, gL_sL, gL_sA, gL_sM, aI_sI, aI_sL, aI_sA, aI_sM, aL_sI, aL_sL, aL_sA, aL_sM] at hv2
    try dsimp only [Nat.beq, gI_sI, gI_sL, gI_sA, gI_sM, gL_sI, gL_sL, gL_sA, gL_sM, aI_sI, aI_sL, aI_sA, aI_sM, aL_sI, aL_sL, aL_sA, aL_sM] at ht2
    have hz2 := congrFun ht2 (gI τ2 14).toNatClampNeg
    dsimp only [Option.toList, List.cons_append, List.nil_append, Nat.beq, gI_sI, gI_sL, gI_sA, gI_sM, gL_sI, gL_sL, gL_sA, gL_sM, aI_sI, aI_sL, aI_sA, aI_sM, aL_sI, aL_sL, aL_sA, aL_sM]
    try simp only [hR2.e2, hR2.e14, hR2.e15, hR2.e17, hR2.e18, hR2.e36, hR2.e42, hR2.e49, hR2.e62, hR2.a3, hR2.a6, hR2.a51, hR2.a19, hR2.a63, hR2.a64, hR2.hp, hR.e18]
    refine ⟨⟨trivial, trivial⟩, fun w3 τ3 w3' τ3' hq3 => ?_⟩
    obtain ⟨⟨rfl, hE3⟩, rfl, hF3⟩ := hq3
    have hR3 : Rj 1 τ3 τ3' := Rj.th (by (repeat (first | exact hR2 | refine Rj.i ?_ rfl | refine Rj.a ?_ rfl | refine Rj.m ?_ | refine Rj.s ?_ (by decide) | refine Rj.o1 ?_ (by first | lia | (dsimp only [Nat.beq, gI_sI, gI_sL, gI_sA, gI_sM, gL_sI, gL_sL, gL_sA, gL_sM, aI_sI, aI_sL, aI_sA, aI_sM, aL_sI, aL_sL, aL_sA, aL_sM]; lia)) | refine Rj.o2 ?_ | refine Rj.f1 ?_ (by first | lia | (dsimp only [Nat.beq, gI_sI, gI_sL, gI_sA, gI_sM, gL_sI, gL_sL, gL_sA, gL_sM, aI_sI, aI_sL, aI_sA, aI_sM, aL_sI, aL_sL, aL_sA, aL_sM]; lia)) | refine Rj.f2 ?_ | refine Rj.fs ?_))) hE3 hF3
    have hl3 := hE3.lt
    try dsimp only [Nat.beq, gI_sI, gI_sL, gI_sA, gI_sM, gL_sI, gL_sL, gL_sA, gL_sM, aI_sI, aI_sL, aI_sA, aI_sM, aL_sI, aL_sL, aL_sA, aL_sM] at hl3
    have hp3 := hE3.1 14 (by decide)
    have hh3 := hE3.1 62 (by decide)
    have ht3 := hE3.2.2.2.1 3 (by decide)
    try dsimp only [Nat.beq, gI_sI, gI_sL, gI_sA, gI_sM, gL_sI, gL_sL, gL_sA, gL_sM, aI_sI, aI_sL, aI_sA, aI_sM, aL_sI, aL_sL, aL_sA, aL_sM] at hp3
    try dsimp only [Nat.beq, gI_sI, gI_sL, gI_sA, gI_sM, gL_sI, gL_sL, gL_sA, gL_sM, aI_sI, aI_sL, aI_sA, aI_sM, aL_sI, aL_sL, aL_sA, aL_sM] at hh3
    try dsimp only [Nat.beq, gI_sI, gI_sL, gI_sA, gI_sM, gL_sI, gL_sL, gL_sA, gL_sM, aI_sI, aI_sL, aI_sA, aI_sM, aL_sI, aL_sL, aL_sA, aL_sM] at ht3
    have hz3 := congrFun ht3 (gI τ3 14).toNatClampNeg
    dsimp only [Option.toList, List.cons_append, List.nil_append, Nat.beq, gI_sI, gI_sL, gI_sA, gI_sM, gL_sI, gL_sL, gL_sA, gL_sM, aI_sI, aI_sL, aI_sA, aI_sM, aL_sI, aL_sL, aL_sA, aL_sM]
    try simp only [hR3.e2, hR3.e14, hR3.e15, hR3.e17, hR3.e18, hR3.e36, hR3.e42, hR3.e49, hR3.e62, hR3.a3, hR3.a6, hR3.a51, hR3.a19, hR3.a63, hR3.a64, hR3.hp, hR.e18, hR2.e49]
    refine ⟨⟨trivial, trivial⟩, fun w4 τ4 w4' τ4' hq4 => ?_⟩
    obtain ⟨⟨rfl, hE4⟩, rfl, hF4⟩ := hq4
    have hR4 : Rj 1 τ4 τ4' := Rj.em (by (repeat (first | exact hR3 | refine Rj.i ?_ rfl | refine Rj.a ?_ rfl | refine Rj.m ?_ | refine Rj.s ?_ (by decide) | refine Rj.o1 ?_ (by first | lia | (dsimp only [Nat.beq, gI_sI, gI_sL, gI_sA, gI_sM, gL_sI, gL_sL, gL_sA, gL_sM, aI_sI, aI_sL, aI_sA, aI_sM, aL_sI, aL_sL, aL_sA, aL_sM]; lia)) | refine Rj.o2 ?_ | refine Rj.f1 ?_ (by first | lia | (dsimp only [Nat.beq, gI_sI, gI_sL, gI_sA, gI_sM, gL_sI, gL_sL, gL_sA, gL_sM, aI_sI, aI_sL, aI_sA, aI_sM, aL_sI, aL_sL, aL_sA, aL_sM]; lia)) | refine Rj.f2 ?_ | refine Rj.fs ?_))) hE4 hF4 (by first | exact fun _ => rfl | exact fun q => absurd q (by decide))
    have hp4 := hE4.1 14 (by decide)
    have ho4 := hE4.1 29 (by decide)
    have hh4 := hE4.1 62 (by decide)
    have hg4 := hE4.1 49 (by decide)
    have hw4 := hE4.1 34 (by decide)
    have hv4 := hF4.1 34 (by decide)
    have ht4 := hE4.2.2.2.2.1 3 (by decide)
    try dsimp only [Nat.beq, gI_sI, gI_sL, gI_sA, gI_sM, gL_sI, gL_sL, gL_sA, gL_sM, aI_sI, aI_sL, aI_sA, aI_sM, aL_sI, aL_sL, aL_sA, aL_sM] at hp4
    try dsimp only [Nat.beq, gI_sI, gI_sL, gI_sA, gI_sM, gL_sI, gL_sL, gL_sA, gL_sM, aI_sI, aI_sL, aI_sA, aI_sM, aL_sI, aL_sL, aL_sA, aL_sM] at ho4
    try dsimp only [Nat.beq, gI_sI, gI_sL, gI_sA, gI_sM, gL_sI, gL_sL, gL_sA, gL_sM, aI_sI, aI_sL, aI_sA, aI_sM, aL_sI, aL_sL, aL_sA, aL_sM] at hh4
    try dsimp only [Nat.beq, gI_sI, gI_sL, gI_sA, gI_sM, gL_sI, gL_sL, gL_sA, gL_sM, aI_sI, aI_sL, aI_sA, aI_sM, aL_sI, aL_sL, aL_sA, aL_sM] at hg4
    try dsimp only [Nat.beq, gI_sI, gI_sL, gI_sA, gI_sM, gL_sI, gL_sL, gL_sA, gL_sM, aI_sI, aI_sL, aI_sA, aI_sM, aL_sI, aL_sL, aL_sA, aL_sM] at hw4
    try dsimp only [Nat.beq, gI_sI, gI_sL, gI_sA, gI_sM, gL_sI, gL_sL, gL_sA, gL_sM, aI_sI, aI_sL, aI_sA, aI_sM, aL_sI, aL_sL, aL_sA, aL_sM] at hv4
    try dsimp only [Nat.beq, gI_sI, gI_sL, gI_sA, gI_sM, gL_sI, gL_sL, gL_sA, gL_sM, aI_sI, aI_sL, aI_sA, aI_sM, aL_sI, aL_sL, aL_sA, aL_sM] at ht4
    have hz4 := congrFun ht4 (gI τ4 14).toNatClampNeg
    dsimp only [Option.toList, List.cons_append, List.nil_append, Nat.beq, gI_sI, gI_sL, gI_sA, gI_sM, gL_sI, gL_sL, gL_sA, gL_sM, aI_sI, aI_sL, aI_sA, aI_sM, aL_sI, aL_sL, aL_sA, aL_sM]
    try simp only [hR4.e2, hR4.e14, hR4.e15, hR4.e17, hR4.e18, hR4.e36, hR4.e42, hR4.e49, hR4.e62, hR4.a3, hR4.a6, hR4.a51, hR4.a19, hR4.a63, hR4.a64, hR4.hp, hR.e18, hR2.e49, hR3.e18]
    refine ⟨⟨(Rj.w (md := 1) (by (repeat (first | exact hR4 | refine Rj.i ?_ rfl | refine Rj.a ?_ rfl | refine Rj.m ?_ | refine Rj.s ?_ (by decide) | refine Rj.o1 ?_ (by first | lia | (dsimp only [Nat.beq, gI_sI, gI_sL, gI_sA, gI_sM, gL_sI, gL_sL, gL_sA, gL_sM, aI_sI, aI_sL, aI_sA, aI_sM, aL_sI, aL_sL, aL_sA, aL_sM]; lia)) | refine Rj.o2 ?_ | refine Rj.f1 ?_ (by first | lia | (dsimp only [Nat.beq, gI_sI, gI_sL, gI_sA, gI_sM, gL_sI, gL_sL, gL_sA, gL_sM, aI_sI, aI_sL, aI_sA, aI_sM, aL_sI, aL_sL, aL_sA, aL_sM]; lia)) | refine Rj.f2 ?_ | refine Rj.fs ?_)))), by lia, by lia⟩, fun w5 τ5 w5' τ5' hq5 => ?_⟩
    obtain ⟨b5, rfl, rfl, hb5⟩ := hq5
    rcases hb5 with rfl | ⟨rfl, hr5, hk5, hx5⟩
    · dsimp only [Option.toList, List.cons_append, List.nil_append, Nat.beq, gI_sI, gI_sL, gI_sA, gI_sM, gL_sI, gL_sL, gL_sA, gL_sM, aI_sI, aI_sL, aI_sA, aI_sM, aL_sI, aL_sL, aL_sA, aL_sM]
      try simp only [hR4.e2, hR4.e14, hR4.e15, hR4.e17, hR4.e18, hR4.e36, hR4.e42, hR4.e49, hR4.e62, hR4.a3, hR4.a6, hR4.a51, hR4.a19, hR4.a63, hR4.a64, hR4.hp, hR.e18, hR2.e49, hR3.e18]
      refine ⟨fun h6 => ⟨(by exact h6), ?_⟩, fun h6 => absurd h6 (by decide)⟩
      clear h6
      refine hB _ _ _ _ _ _ _ _ (fun m7 hm7 => ?_)
      dsimp only [jgo, jwp, jst, jct, rfd, BdoOf, Nat.beq, lv_args, rlk, rs1, rs2, rdl, rky, rcd, rno, rsw, Value.category, List.filter, List.take, List.drop, List.reverse, List.reverseAux, List.cons_append, List.nil_append, Option.toList, Int.toNat, Int.reduceToNat, if_pos, if_neg, reduceIte, ↓reduceIte, Nat.reduceAdd, Nat.reduceEqDiff, Nat.reduceBEq, beq_self_eq_true, Bool.not_true, Bool.not_false, Bool.and_true, Bool.and_false, Bool.true_and, Bool.false_and, gI_sI, gI_sL, gI_sA, gI_sM, gL_sI, gL_sL, gL_sA, gL_sM, aI_sI, aI_sL, aI_sA, aI_sM, aL_sI, aL_sL, aL_sA, aL_sM, BdoOf_0, BdoOf_37, BdoOf_47, BdoOf_51, BdoOf_52, oi_0, oi_1, oi_20, oi_29, oi_5, Pu_emit, Pj_open, Pj_take, Pu_thing]; try dsimp only
      try simp only [hR4.e2, hR4.e14, hR4.e15, hR4.e17, hR4.e18, hR4.e36, hR4.e42, hR4.e49, hR4.e62, hR4.a3, hR4.a6, hR4.a51, hR4.a19, hR4.a63, hR4.a64, hR4.hp, hR.e18, hR2.e49, hR3.e18]
      refine hB _ _ _ _ _ _ _ _ (fun m8 hm8 => ?_)
      dsimp only [jgo, jwp, jst, jct, rfd, BdoOf, Nat.beq, lv_args, rlk, rs1, rs2, rdl, rky, rcd, rno, rsw, Value.category, List.filter, List.take, List.drop, List.reverse, List.reverseAux, List.cons_append, List.nil_append, Option.toList, Int.toNat, Int.reduceToNat, if_pos, if_neg, reduceIte, ↓reduceIte, Nat.reduceAdd, Nat.reduceEqDiff, Nat.reduceBEq, beq_self_eq_true, Bool.not_true, Bool.not_false, Bool.and_true, Bool.and_false, Bool.true_and, Bool.false_and, gI_sI, gI_sL, gI_sA, gI_sM, gL_sI, gL_sL, gL_sA, gL_sM, aI_sI, aI_sL, aI_sA, aI_sM, aL_sI, aL_sL, aL_sA, aL_sM, BdoOf_0, BdoOf_37, BdoOf_47, BdoOf_51, BdoOf_52, oi_0, oi_1, oi_20, oi_29, oi_5, Pu_emit, Pj_open, Pj_take, Pu_thing]; try dsimp only
      try simp only [hR4.e2, hR4.e14, hR4.e15, hR4.e17, hR4.e18, hR4.e36, hR4.e42, hR4.e49, hR4.e62, hR4.a3, hR4.a6, hR4.a51, hR4.a19, hR4.a63, hR4.a64, hR4.hp, hR.e18, hR2.e49, hR3.e18]
      unfold Qj_doOf
      try dsimp only
      exact ⟨_, rfl, rfl, Or.inl rfl⟩
    · dsimp only [Option.toList, List.cons_append, List.nil_append, Nat.beq, gI_sI, gI_sL, gI_sA, gI_sM, gL_sI, gL_sL, gL_sA, gL_sM, aI_sI, aI_sL, aI_sA, aI_sM, aL_sI, aL_sL, aL_sA, aL_sM]
      have hR5 : Rj 1 τ5 τ5' := hr5 _ (by (repeat (first | exact hR4 | refine Rj.i ?_ rfl | refine Rj.a ?_ rfl | refine Rj.m ?_ | refine Rj.s ?_ (by decide) | refine Rj.o1 ?_ (by first | lia | (dsimp only [Nat.beq, gI_sI, gI_sL, gI_sA, gI_sM, gL_sI, gL_sL, gL_sA, gL_sM, aI_sI, aI_sL, aI_sA, aI_sM, aL_sI, aL_sL, aL_sA, aL_sM]; lia)) | refine Rj.o2 ?_ | refine Rj.f1 ?_ (by first | lia | (dsimp only [Nat.beq, gI_sI, gI_sL, gI_sA, gI_sM, gL_sI, gL_sL, gL_sA, gL_sM, aI_sI, aI_sL, aI_sA, aI_sM, aL_sI, aL_sL, aL_sA, aL_sM]; lia)) | refine Rj.f2 ?_ | refine Rj.fs ?_)))
      have ht5 := hk5.2 3 rfl
      have hc5 := hk5.1 2 rfl
      try dsimp only [Nat.beq, gI_sI, gI_sL, gI_sA, gI_sM, gL_sI, gL_sL, gL_sA, gL_sM, aI_sI, aI_sL, aI_sA, aI_sM, aL_sI, aL_sL, aL_sA, aL_sM] at hx5
      try dsimp only [Nat.beq, gI_sI, gI_sL, gI_sA, gI_sM, gL_sI, gL_sL, gL_sA, gL_sM, aI_sI, aI_sL, aI_sA, aI_sM, aL_sI, aL_sL, aL_sA, aL_sM] at ht5
      try dsimp only [Nat.beq, gI_sI, gI_sL, gI_sA, gI_sM, gL_sI, gL_sL, gL_sA, gL_sM, aI_sI, aI_sL, aI_sA, aI_sM, aL_sI, aL_sL, aL_sA, aL_sM] at hc5
      have hh5 := hk5.1 62 rfl
      have hg5 := hk5.1 49 rfl
      try dsimp only [Nat.beq, gI_sI, gI_sL, gI_sA, gI_sM, gL_sI, gL_sL, gL_sA, gL_sM, aI_sI, aI_sL, aI_sA, aI_sM, aL_sI, aL_sL, aL_sA, aL_sM] at hh5
      try dsimp only [Nat.beq, gI_sI, gI_sL, gI_sA, gI_sM, gL_sI, gL_sL, gL_sA, gL_sM, aI_sI, aI_sL, aI_sA, aI_sM, aL_sI, aL_sL, aL_sA, aL_sM] at hg5
      have hz5 := congrFun ht5 (gI τ5 14).toNatClampNeg
      try simp only [hR5.e2, hR5.e14, hR5.e15, hR5.e17, hR5.e18, hR5.e36, hR5.e42, hR5.e49, hR5.e62, hR5.a3, hR5.a6, hR5.a51, hR5.a19, hR5.a63, hR5.a64, hR5.hp, hR.e18, hR2.e49, hR3.e18]
      refine ⟨fun h9 => absurd h9 (by decide), fun h9 => ⟨(by exact h9), ?_⟩⟩
      clear h9
      refine hB _ _ _ _ _ _ _ _ (fun m10 hm10 => ?_)
      dsimp only [jgo, jwp, jst, jct, rfd, BdoOf, Nat.beq, lv_args, rlk, rs1, rs2, rdl, rky, rcd, rno, rsw, Value.category, List.filter, List.take, List.drop, List.reverse, List.reverseAux, List.cons_append, List.nil_append, Option.toList, Int.toNat, Int.reduceToNat, if_pos, if_neg, reduceIte, ↓reduceIte, Nat.reduceAdd, Nat.reduceEqDiff, Nat.reduceBEq, beq_self_eq_true, Bool.not_true, Bool.not_false, Bool.and_true, Bool.and_false, Bool.true_and, Bool.false_and, gI_sI, gI_sL, gI_sA, gI_sM, gL_sI, gL_sL, gL_sA, gL_sM, aI_sI, aI_sL, aI_sA, aI_sM, aL_sI, aL_sL, aL_sA, aL_sM, BdoOf_0, BdoOf_37, BdoOf_47, BdoOf_51, BdoOf_52, oi_0, oi_1, oi_20, oi_29, oi_5, Pu_emit, Pj_open, Pj_take, Pu_thing]; try dsimp only
      try simp only [hR5.e2, hR5.e14, hR5.e15, hR5.e17, hR5.e18, hR5.e36, hR5.e42, hR5.e49, hR5.e62, hR5.a3, hR5.a6, hR5.a51, hR5.a19, hR5.a63, hR5.a64, hR5.hp, hR.e18, hR2.e49, hR3.e18]
      refine ⟨⟨(by (repeat (first | exact hR5 | refine Rj.i ?_ rfl | refine Rj.a ?_ rfl | refine Rj.m ?_ | refine Rj.s ?_ (by decide) | refine Rj.o1 ?_ (by first | lia | (dsimp only [Nat.beq, gI_sI, gI_sL, gI_sA, gI_sM, gL_sI, gL_sL, gL_sA, gL_sM, aI_sI, aI_sL, aI_sA, aI_sM, aL_sI, aL_sL, aL_sA, aL_sM]; lia)) | refine Rj.o2 ?_ | refine Rj.f1 ?_ (by first | lia | (dsimp only [Nat.beq, gI_sI, gI_sL, gI_sA, gI_sM, gL_sI, gL_sL, gL_sA, gL_sM, aI_sI, aI_sL, aI_sA, aI_sM, aL_sI, aL_sL, aL_sA, aL_sM]; lia)) | refine Rj.f2 ?_ | refine Rj.fs ?_))), (by first | exact True.intro | rfl), (by first | exact True.intro | rfl), by lia⟩, fun w11 τ11 w11' τ11' hq11 => ?_⟩
      obtain ⟨b11, rfl, rfl, hb11⟩ := hq11
      rcases hb11 with rfl | ⟨rfl, hR11⟩
      · dsimp only [Option.toList, List.cons_append, List.nil_append, Nat.beq, gI_sI, gI_sL, gI_sA, gI_sM, gL_sI, gL_sL, gL_sA, gL_sM, aI_sI, aI_sL, aI_sA, aI_sM, aL_sI, aL_sL, aL_sA, aL_sM]
        try simp only [hR5.e2, hR5.e14, hR5.e15, hR5.e17, hR5.e18, hR5.e36, hR5.e42, hR5.e49, hR5.e62, hR5.a3, hR5.a6, hR5.a51, hR5.a19, hR5.a63, hR5.a64, hR5.hp, hR.e18, hR2.e49, hR3.e18]
        refine ⟨fun h12 => ⟨(by exact h12), ?_⟩, fun h12 => absurd h12 (by decide)⟩
        clear h12
        refine hB _ _ _ _ _ _ _ _ (fun m13 hm13 => ?_)
        dsimp only [jgo, jwp, jst, jct, rfd, BdoOf, Nat.beq, lv_args, rlk, rs1, rs2, rdl, rky, rcd, rno, rsw, Value.category, List.filter, List.take, List.drop, List.reverse, List.reverseAux, List.cons_append, List.nil_append, Option.toList, Int.toNat, Int.reduceToNat, if_pos, if_neg, reduceIte, ↓reduceIte, Nat.reduceAdd, Nat.reduceEqDiff, Nat.reduceBEq, beq_self_eq_true, Bool.not_true, Bool.not_false, Bool.and_true, Bool.and_false, Bool.true_and, Bool.false_and, gI_sI, gI_sL, gI_sA, gI_sM, gL_sI, gL_sL, gL_sA, gL_sM, aI_sI, aI_sL, aI_sA, aI_sM, aL_sI, aL_sL, aL_sA, aL_sM, BdoOf_0, BdoOf_37, BdoOf_47, BdoOf_51, BdoOf_52, oi_0, oi_1, oi_20, oi_29, oi_5, Pu_emit, Pj_open, Pj_take, Pu_thing]; try dsimp only
        try simp only [hR5.e2, hR5.e14, hR5.e15, hR5.e17, hR5.e18, hR5.e36, hR5.e42, hR5.e49, hR5.e62, hR5.a3, hR5.a6, hR5.a51, hR5.a19, hR5.a63, hR5.a64, hR5.hp, hR.e18, hR2.e49, hR3.e18]
        refine hB _ _ _ _ _ _ _ _ (fun m14 hm14 => ?_)
        dsimp only [jgo, jwp, jst, jct, rfd, BdoOf, Nat.beq, lv_args, rlk, rs1, rs2, rdl, rky, rcd, rno, rsw, Value.category, List.filter, List.take, List.drop, List.reverse, List.reverseAux, List.cons_append, List.nil_append, Option.toList, Int.toNat, Int.reduceToNat, if_pos, if_neg, reduceIte, ↓reduceIte, Nat.reduceAdd, Nat.reduceEqDiff, Nat.reduceBEq, beq_self_eq_true, Bool.not_true, Bool.not_false, Bool.and_true, Bool.and_false, Bool.true_and, Bool.false_and, gI_sI, gI_sL, gI_sA, gI_sM, gL_sI, gL_sL, gL_sA, gL_sM, aI_sI, aI_sL, aI_sA, aI_sM, aL_sI, aL_sL, aL_sA, aL_sM, BdoOf_0, BdoOf_37, BdoOf_47, BdoOf_51, BdoOf_52, oi_0, oi_1, oi_20, oi_29, oi_5, Pu_emit, Pj_open, Pj_take, Pu_thing]; try dsimp only
        try simp only [hR5.e2, hR5.e14, hR5.e15, hR5.e17, hR5.e18, hR5.e36, hR5.e42, hR5.e49, hR5.e62, hR5.a3, hR5.a6, hR5.a51, hR5.a19, hR5.a63, hR5.a64, hR5.hp, hR.e18, hR2.e49, hR3.e18]
        unfold Qj_doOf
        try dsimp only
        exact ⟨_, rfl, rfl, Or.inl rfl⟩
      · dsimp only [Option.toList, List.cons_append, List.nil_append, Nat.beq, gI_sI, gI_sL, gI_sA, gI_sM, gL_sI, gL_sL, gL_sA, gL_sM, aI_sI, aI_sL, aI_sA, aI_sM, aL_sI, aL_sL, aL_sA, aL_sM]
        try simp only [hR11.e2, hR11.e14, hR11.e15, hR11.e17, hR11.e18, hR11.e36, hR11.e42, hR11.e49, hR11.e62, hR11.a3, hR11.a6, hR11.a51, hR11.a19, hR11.a63, hR11.a64, hR11.hp, hR.e18, hR2.e49, hR3.e18]
        refine ⟨fun h15 => absurd h15 (by decide), fun h15 => ⟨(by exact h15), ?_⟩⟩
        clear h15
        refine hB _ _ _ _ _ _ _ _ (fun m16 hm16 => ?_)
        dsimp only [jgo, jwp, jst, jct, rfd, BdoOf, Nat.beq, lv_args, rlk, rs1, rs2, rdl, rky, rcd, rno, rsw, Value.category, List.filter, List.take, List.drop, List.reverse, List.reverseAux, List.cons_append, List.nil_append, Option.toList, Int.toNat, Int.reduceToNat, if_pos, if_neg, reduceIte, ↓reduceIte, Nat.reduceAdd, Nat.reduceEqDiff, Nat.reduceBEq, beq_self_eq_true, Bool.not_true, Bool.not_false, Bool.and_true, Bool.and_false, Bool.true_and, Bool.false_and, gI_sI, gI_sL, gI_sA, gI_sM, gL_sI, gL_sL, gL_sA, gL_sM, aI_sI, aI_sL, aI_sA, aI_sM, aL_sI, aL_sL, aL_sA, aL_sM, BdoOf_0, BdoOf_37, BdoOf_47, BdoOf_51, BdoOf_52, oi_0, oi_1, oi_20, oi_29, oi_5, Pu_emit, Pj_open, Pj_take, Pu_thing]; try dsimp only
        try simp only [hR11.e2, hR11.e14, hR11.e15, hR11.e17, hR11.e18, hR11.e36, hR11.e42, hR11.e49, hR11.e62, hR11.a3, hR11.a6, hR11.a51, hR11.a19, hR11.a63, hR11.a64, hR11.hp, hR.e18, hR2.e49, hR3.e18]
        refine hB _ _ _ _ _ _ _ _ (fun m17 hm17 => ?_)
        dsimp only [jgo, jwp, jst, jct, rfd, BdoOf, Nat.beq, lv_args, rlk, rs1, rs2, rdl, rky, rcd, rno, rsw, Value.category, List.filter, List.take, List.drop, List.reverse, List.reverseAux, List.cons_append, List.nil_append, Option.toList, Int.toNat, Int.reduceToNat, if_pos, if_neg, reduceIte, ↓reduceIte, Nat.reduceAdd, Nat.reduceEqDiff, Nat.reduceBEq, beq_self_eq_true, Bool.not_true, Bool.not_false, Bool.and_true, Bool.and_false, Bool.true_and, Bool.false_and, gI_sI, gI_sL, gI_sA, gI_sM, gL_sI, gL_sL, gL_sA, gL_sM, aI_sI, aI_sL, aI_sA, aI_sM, aL_sI, aL_sL, aL_sA, aL_sM, BdoOf_0, BdoOf_37, BdoOf_47, BdoOf_51, BdoOf_52, oi_0, oi_1, oi_20, oi_29, oi_5, Pu_emit, Pj_open, Pj_take, Pu_thing]; try dsimp only
        try simp only [hR11.e2, hR11.e14, hR11.e15, hR11.e17, hR11.e18, hR11.e36, hR11.e42, hR11.e49, hR11.e62, hR11.a3, hR11.a6, hR11.a51, hR11.a19, hR11.a63, hR11.a64, hR11.hp, hR.e18, hR2.e49, hR3.e18]
        unfold Qj_doOf
        try dsimp only
        exact ⟨_, rfl, rfl, Or.inr ⟨rfl, by (repeat (first | exact hR11 | refine Rj.i ?_ rfl | refine Rj.a ?_ rfl | refine Rj.m ?_ | refine Rj.s ?_ (by decide) | refine Rj.o1 ?_ (by first | lia | (dsimp only [Nat.beq, gI_sI, gI_sL, gI_sA, gI_sM, gL_sI, gL_sL, gL_sA, gL_sM, aI_sI, aI_sL, aI_sA, aI_sM, aL_sI, aL_sL, aL_sA, aL_sM]; lia)) | refine Rj.o2 ?_ | refine Rj.f1 ?_ (by first | lia | (dsimp only [Nat.beq, gI_sI, gI_sL, gI_sA, gI_sM, gL_sI, gL_sL, gL_sA, gL_sM, aI_sI, aI_sL, aI_sA, aI_sM, aL_sI, aL_sL, aL_sA, aL_sM]; lia)) | refine Rj.f2 ?_ | refine Rj.fs ?_))⟩⟩
  next => exact hP.elim
def Pj_switchOf : JPr := fun A1 A2 σ ρ => match A1, A2 with
  | [], [] => Rj 1 σ ρ ∧ aI σ 3 (gI σ 14).toNatClampNeg = 4
  | _, _ => False
def Qj_switchOf : JQr := fun A1 A2 σ ρ w τ w' τ' => match A1, A2 with
  | [], [] => ∃ b : Int32, w = some (.int b) ∧ w' = some (.int b) ∧ (b = 0 ∨ (b = 1 ∧ Rj 1 τ τ'))
  | _, _ => False
set_option maxRecDepth 100000 in
set_option maxHeartbeats 4000000 in
theorem j_switchOf : JMet 58 Pj_switchOf Qj_switchOf := by
  refine JMet.by BswitchOf [(52, Pj_condition, Qj_condition), (20, (fun A1 A2 σ ρ => Pu_emit A1 σ ∧ Pu_emit A2 ρ), (fun A1 A2 σ ρ w τ w' τ' => Qu_emit A1 σ w τ ∧ Qu_emit A2 ρ w' τ')), (36, Pj_open, Qj_open), (17, Pj_take, Qj_take), (35, (fun A1 A2 σ ρ => Pu_thing A1 σ ∧ Pu_thing A2 ρ), (fun A1 A2 σ ρ w τ w' τ' => Qu_thing A1 σ w τ ∧ Qu_thing A2 ρ w' τ')), (18, Pj_want, Qj_want)] rfl (jcc j_condition (jcc (JMet.u u_emit) (jcc j_open (jcc j_take (jcc (JMet.u u_thing) (jcc j_want jc0)))))) ?_
  intro A1 A2 σ ρ hP K hB hW
  unfold Pj_switchOf at hP
  split at hP
  next =>
    obtain ⟨hR, htk⟩ := hP
    intro n0
    refine hB _ _ _ _ _ _ _ _ (fun m1 hm1 => ?_)
    dsimp only [jgo, jwp, jst, jct, rfd, BswitchOf, Nat.beq, lv_args, rlk, rs1, rs2, rdl, rky, rcd, rno, rsw, Value.category, List.filter, List.take, List.drop, List.reverse, List.reverseAux, List.cons_append, List.nil_append, Option.toList, Int.toNat, Int.reduceToNat, if_pos, if_neg, reduceIte, ↓reduceIte, Nat.reduceAdd, Nat.reduceEqDiff, Nat.reduceBEq, beq_self_eq_true, Bool.not_true, Bool.not_false, Bool.and_true, Bool.and_false, Bool.true_and, Bool.false_and, gI_sI, gI_sL, gI_sA, gI_sM, gL_sI, gL_sL, gL_sA, gL_sM, aI_sI, aI_sL, aI_sA, aI_sM, aL_sI, aL_sL, aL_sA, aL_sM, BswitchOf_0, BswitchOf_29, BswitchOf_36, BswitchOf_38, BswitchOf_61, BswitchOf_72, BswitchOf_76, BswitchOf_77, oi_0, oi_1, oi_123, oi_20, oi_37, oi_8, Pj_condition, Pu_emit, Pj_open, Pj_take, Pu_thing, Pj_want]; try dsimp only
    try simp only [hR.e2, hR.e14, hR.e15, hR.e17, hR.e18, hR.e36, hR.e42, hR.e49, hR.e62, hR.a3, hR.a6, hR.a51, hR.a19, hR.a63, hR.a64, hR.hp]
    refine ⟨⟨trivial, trivial⟩, fun w2 τ2 w2' τ2' hq2 => ?_⟩
    obtain ⟨⟨rfl, hE2⟩, rfl, hF2⟩ := hq2
    have hR2 : Rj 1 τ2 τ2' := Rj.em (by (repeat (first | exact hR | refine Rj.i ?_ rfl | refine Rj.a ?_ rfl | refine Rj.m ?_ | refine Rj.s ?_ (by decide) | refine Rj.o1 ?_ (by first | lia | (dsimp only [Nat.beq, gI_sI, gI_sL, gI_sA, gI_sM, gL_sI, gL_sL, gL_sA, gL_sM, aI_sI, aI_sL, aI_sA, aI_sM, aL_sI, aL_sL, aL_sA, aL_sM]; lia)) | refine Rj.o2 ?_ | refine Rj.f1 ?_ (by first | lia | (dsimp only [Nat.beq, gI_sI, gI_sL, gI_sA, gI_sM, gL_sI, gL_sL, gL_sA, gL_sM, aI_sI, aI_sL, aI_sA, aI_sM, aL_sI, aL_sL, aL_sA, aL_sM]; lia)) | refine Rj.f2 ?_ | refine Rj.fs ?_))) hE2 hF2 (by first | exact fun _ => rfl | exact fun q => absurd q (by decide))
    have hp2 := hE2.1 14 (by decide)
    have ho2 := hE2.1 29 (by decide)
    have hh2 := hE2.1 62 (by decide)
    have hg2 := hE2.1 49 (by decide)
    have hw2 := hE2.1 34 (by decide)
    have hv2 := hF2.1 34 (by decide)
    have ht2 := hE2.2.2.2.2.1 3 (by decide)
    try dsimp only [Nat.beq, gI_sI, gI_sL, gI_sA, gI_sM, gL_sI, gL_sL, gL_sA, gL_sM, aI_sI, aI_sL, aI_sA, aI_sM, aL_sI, aL_sL, aL_sA, aL_sM] at hp2
    try dsimp only [Nat.beq, gI_sI, gI_sL, gI_sA, gI_sM, gL_sI, gL_sL, gL_sA, gL_sM, aI_sI, aI_sL, aI_sA, aI_sM, aL_sI, aL_sL, aL_sA, aL_sM] at ho2
    try dsimp only [Nat.beq, gI_sI, gI_sL, gI_sA, gI_sM, gL_sI, gL_sL, gL_sA, gL_sM, aI_sI, aI_sL, aI_sA, aI_sM, aL_sI, aL_sL, aL_sA, aL_sM] at hh2
    try dsimp only [Nat.beq, gI_sI, gI_sL, gI_sA, gI_sM, gL_sI, gL_sL, gL_sA, gL_sM, aI_sI, aI_sL, aI_sA, aI_sM, aL_sI, aL_sL, aL_sA, aL_sM] at hg2
    try dsimp only [Nat.beq, gI_sI, gI_sL, gI_sA, gI_sM, gL_sI, gL_sL, gL_sA, gL_sM, aI_sI, aI_sL, aI_sA, aI_sM, aL_sI, aL_sL, aL_sA, aL_sM] at hw2
    try dsimp only [Nat.beq, gI_sI, gI_sL, gI_sA, gI_sM, gL_sI, gL_sL, gL_sA, gL_sM, aI_sI, aI_sL, aI_sA, aI_sM, aL_sI, aL_sL, aL_sA, aL_sM] at hv2
    try dsimp only [Nat.beq, gI_sI, gI_sL, gI_sA, gI_sM, gL_sI, gL_sL, gL_sA, gL_sM, aI_sI, aI_sL, aI_sA, aI_sM, aL_sI, aL_sL, aL_sA, aL_sM] at ht2
    have hz2 := congrFun ht2 (gI τ2 14).toNatClampNeg
    dsimp only [Option.toList, List.cons_append, List.nil_append, Nat.beq, gI_sI, gI_sL, gI_sA, gI_sM, gL_sI, gL_sL, gL_sA, gL_sM, aI_sI, aI_sL, aI_sA, aI_sM, aL_sI, aL_sL, aL_sA, aL_sM]
    try simp only [hR2.e2, hR2.e14, hR2.e15, hR2.e17, hR2.e18, hR2.e36, hR2.e42, hR2.e49, hR2.e62, hR2.a3, hR2.a6, hR2.a51, hR2.a19, hR2.a63, hR2.a64, hR2.hp, hR.e18]
    refine ⟨⟨trivial, trivial⟩, fun w3 τ3 w3' τ3' hq3 => ?_⟩
    obtain ⟨⟨rfl, hE3⟩, rfl, hF3⟩ := hq3
    have hR3 : Rj 1 τ3 τ3' := Rj.th (by (repeat (first | exact hR2 | refine Rj.i ?_ rfl | refine Rj.a ?_ rfl | refine Rj.m ?_ | refine Rj.s ?_ (by decide) | refine Rj.o1 ?_ (by first | lia | (dsimp only [Nat.beq, gI_sI, gI_sL, gI_sA, gI_sM, gL_sI, gL_sL, gL_sA, gL_sM, aI_sI, aI_sL, aI_sA, aI_sM, aL_sI, aL_sL, aL_sA, aL_sM]; lia)) | refine Rj.o2 ?_ | refine Rj.f1 ?_ (by first | lia | (dsimp only [Nat.beq, gI_sI, gI_sL, gI_sA, gI_sM, gL_sI, gL_sL, gL_sA, gL_sM, aI_sI, aI_sL, aI_sA, aI_sM, aL_sI, aL_sL, aL_sA, aL_sM]; lia)) | refine Rj.f2 ?_ | refine Rj.fs ?_))) hE3 hF3
    have hl3 := hE3.lt
    try dsimp only [Nat.beq, gI_sI, gI_sL, gI_sA, gI_sM, gL_sI, gL_sL, gL_sA, gL_sM, aI_sI, aI_sL, aI_sA, aI_sM, aL_sI, aL_sL, aL_sA, aL_sM] at hl3
    have hp3 := hE3.1 14 (by decide)
    have hh3 := hE3.1 62 (by decide)
    have ht3 := hE3.2.2.2.1 3 (by decide)
    try dsimp only [Nat.beq, gI_sI, gI_sL, gI_sA, gI_sM, gL_sI, gL_sL, gL_sA, gL_sM, aI_sI, aI_sL, aI_sA, aI_sM, aL_sI, aL_sL, aL_sA, aL_sM] at hp3
    try dsimp only [Nat.beq, gI_sI, gI_sL, gI_sA, gI_sM, gL_sI, gL_sL, gL_sA, gL_sM, aI_sI, aI_sL, aI_sA, aI_sM, aL_sI, aL_sL, aL_sA, aL_sM] at hh3
    try dsimp only [Nat.beq, gI_sI, gI_sL, gI_sA, gI_sM, gL_sI, gL_sL, gL_sA, gL_sM, aI_sI, aI_sL, aI_sA, aI_sM, aL_sI, aL_sL, aL_sA, aL_sM] at ht3
    have hz3 := congrFun ht3 (gI τ3 14).toNatClampNeg
    dsimp only [Option.toList, List.cons_append, List.nil_append, Nat.beq, gI_sI, gI_sL, gI_sA, gI_sM, gL_sI, gL_sL, gL_sA, gL_sM, aI_sI, aI_sL, aI_sA, aI_sM, aL_sI, aL_sL, aL_sA, aL_sM]
    try simp only [hR3.e2, hR3.e14, hR3.e15, hR3.e17, hR3.e18, hR3.e36, hR3.e42, hR3.e49, hR3.e62, hR3.a3, hR3.a6, hR3.a51, hR3.a19, hR3.a63, hR3.a64, hR3.hp, hR.e18, hR2.e49]
    refine ⟨⟨(Rj.w (md := 1) (by (repeat (first | exact hR3 | refine Rj.i ?_ rfl | refine Rj.a ?_ rfl | refine Rj.m ?_ | refine Rj.s ?_ (by decide) | refine Rj.o1 ?_ (by first | lia | (dsimp only [Nat.beq, gI_sI, gI_sL, gI_sA, gI_sM, gL_sI, gL_sL, gL_sA, gL_sM, aI_sI, aI_sL, aI_sA, aI_sM, aL_sI, aL_sL, aL_sA, aL_sM]; lia)) | refine Rj.o2 ?_ | refine Rj.f1 ?_ (by first | lia | (dsimp only [Nat.beq, gI_sI, gI_sL, gI_sA, gI_sM, gL_sI, gL_sL, gL_sA, gL_sM, aI_sI, aI_sL, aI_sA, aI_sM, aL_sI, aL_sL, aL_sA, aL_sM]; lia)) | refine Rj.f2 ?_ | refine Rj.fs ?_)))), by lia, by lia⟩, fun w4 τ4 w4' τ4' hq4 => ?_⟩
    obtain ⟨b4, rfl, rfl, hb4⟩ := hq4
    rcases hb4 with rfl | ⟨rfl, hr4, hk4, hx4⟩
    · dsimp only [Option.toList, List.cons_append, List.nil_append, Nat.beq, gI_sI, gI_sL, gI_sA, gI_sM, gL_sI, gL_sL, gL_sA, gL_sM, aI_sI, aI_sL, aI_sA, aI_sM, aL_sI, aL_sL, aL_sA, aL_sM]
      try simp only [hR3.e2, hR3.e14, hR3.e15, hR3.e17, hR3.e18, hR3.e36, hR3.e42, hR3.e49, hR3.e62, hR3.a3, hR3.a6, hR3.a51, hR3.a19, hR3.a63, hR3.a64, hR3.hp, hR.e18, hR2.e49]
      refine ⟨fun h5 => ⟨(by exact h5), ?_⟩, fun h5 => absurd h5 (by decide)⟩
      clear h5
      refine hB _ _ _ _ _ _ _ _ (fun m6 hm6 => ?_)
      dsimp only [jgo, jwp, jst, jct, rfd, BswitchOf, Nat.beq, lv_args, rlk, rs1, rs2, rdl, rky, rcd, rno, rsw, Value.category, List.filter, List.take, List.drop, List.reverse, List.reverseAux, List.cons_append, List.nil_append, Option.toList, Int.toNat, Int.reduceToNat, if_pos, if_neg, reduceIte, ↓reduceIte, Nat.reduceAdd, Nat.reduceEqDiff, Nat.reduceBEq, beq_self_eq_true, Bool.not_true, Bool.not_false, Bool.and_true, Bool.and_false, Bool.true_and, Bool.false_and, gI_sI, gI_sL, gI_sA, gI_sM, gL_sI, gL_sL, gL_sA, gL_sM, aI_sI, aI_sL, aI_sA, aI_sM, aL_sI, aL_sL, aL_sA, aL_sM, BswitchOf_0, BswitchOf_29, BswitchOf_36, BswitchOf_38, BswitchOf_61, BswitchOf_72, BswitchOf_76, BswitchOf_77, oi_0, oi_1, oi_123, oi_20, oi_37, oi_8, Pj_condition, Pu_emit, Pj_open, Pj_take, Pu_thing, Pj_want]; try dsimp only
      try simp only [hR3.e2, hR3.e14, hR3.e15, hR3.e17, hR3.e18, hR3.e36, hR3.e42, hR3.e49, hR3.e62, hR3.a3, hR3.a6, hR3.a51, hR3.a19, hR3.a63, hR3.a64, hR3.hp, hR.e18, hR2.e49]
      unfold Qj_switchOf
      try dsimp only
      exact ⟨_, rfl, rfl, Or.inl rfl⟩
    · dsimp only [Option.toList, List.cons_append, List.nil_append, Nat.beq, gI_sI, gI_sL, gI_sA, gI_sM, gL_sI, gL_sL, gL_sA, gL_sM, aI_sI, aI_sL, aI_sA, aI_sM, aL_sI, aL_sL, aL_sA, aL_sM]
      have hR4 : Rj 1 τ4 τ4' := hr4 _ (by (repeat (first | exact hR3 | refine Rj.i ?_ rfl | refine Rj.a ?_ rfl | refine Rj.m ?_ | refine Rj.s ?_ (by decide) | refine Rj.o1 ?_ (by first | lia | (dsimp only [Nat.beq, gI_sI, gI_sL, gI_sA, gI_sM, gL_sI, gL_sL, gL_sA, gL_sM, aI_sI, aI_sL, aI_sA, aI_sM, aL_sI, aL_sL, aL_sA, aL_sM]; lia)) | refine Rj.o2 ?_ | refine Rj.f1 ?_ (by first | lia | (dsimp only [Nat.beq, gI_sI, gI_sL, gI_sA, gI_sM, gL_sI, gL_sL, gL_sA, gL_sM, aI_sI, aI_sL, aI_sA, aI_sM, aL_sI, aL_sL, aL_sA, aL_sM]; lia)) | refine Rj.f2 ?_ | refine Rj.fs ?_)))
      have ht4 := hk4.2 3 rfl
      have hc4 := hk4.1 2 rfl
      try dsimp only [Nat.beq, gI_sI, gI_sL, gI_sA, gI_sM, gL_sI, gL_sL, gL_sA, gL_sM, aI_sI, aI_sL, aI_sA, aI_sM, aL_sI, aL_sL, aL_sA, aL_sM] at hx4
      try dsimp only [Nat.beq, gI_sI, gI_sL, gI_sA, gI_sM, gL_sI, gL_sL, gL_sA, gL_sM, aI_sI, aI_sL, aI_sA, aI_sM, aL_sI, aL_sL, aL_sA, aL_sM] at ht4
      try dsimp only [Nat.beq, gI_sI, gI_sL, gI_sA, gI_sM, gL_sI, gL_sL, gL_sA, gL_sM, aI_sI, aI_sL, aI_sA, aI_sM, aL_sI, aL_sL, aL_sA, aL_sM] at hc4
      have hh4 := hk4.1 62 rfl
      have hg4 := hk4.1 49 rfl
      try dsimp only [Nat.beq, gI_sI, gI_sL, gI_sA, gI_sM, gL_sI, gL_sL, gL_sA, gL_sM, aI_sI, aI_sL, aI_sA, aI_sM, aL_sI, aL_sL, aL_sA, aL_sM] at hh4
      try dsimp only [Nat.beq, gI_sI, gI_sL, gI_sA, gI_sM, gL_sI, gL_sL, gL_sA, gL_sM, aI_sI, aI_sL, aI_sA, aI_sM, aL_sI, aL_sL, aL_sA, aL_sM] at hg4
      have hz4 := congrFun ht4 (gI τ4 14).toNatClampNeg
      try simp only [hR4.e2, hR4.e14, hR4.e15, hR4.e17, hR4.e18, hR4.e36, hR4.e42, hR4.e49, hR4.e62, hR4.a3, hR4.a6, hR4.a51, hR4.a19, hR4.a63, hR4.a64, hR4.hp, hR.e18, hR2.e49]
      refine ⟨fun h7 => absurd h7 (by decide), fun h7 => ⟨(by exact h7), ?_⟩⟩
      clear h7
      refine hB _ _ _ _ _ _ _ _ (fun m8 hm8 => ?_)
      dsimp only [jgo, jwp, jst, jct, rfd, BswitchOf, Nat.beq, lv_args, rlk, rs1, rs2, rdl, rky, rcd, rno, rsw, Value.category, List.filter, List.take, List.drop, List.reverse, List.reverseAux, List.cons_append, List.nil_append, Option.toList, Int.toNat, Int.reduceToNat, if_pos, if_neg, reduceIte, ↓reduceIte, Nat.reduceAdd, Nat.reduceEqDiff, Nat.reduceBEq, beq_self_eq_true, Bool.not_true, Bool.not_false, Bool.and_true, Bool.and_false, Bool.true_and, Bool.false_and, gI_sI, gI_sL, gI_sA, gI_sM, gL_sI, gL_sL, gL_sA, gL_sM, aI_sI, aI_sL, aI_sA, aI_sM, aL_sI, aL_sL, aL_sA, aL_sM, BswitchOf_0, BswitchOf_29, BswitchOf_36, BswitchOf_38, BswitchOf_61, BswitchOf_72, BswitchOf_76, BswitchOf_77, oi_0, oi_1, oi_123, oi_20, oi_37, oi_8, Pj_condition, Pu_emit, Pj_open, Pj_take, Pu_thing, Pj_want]; try dsimp only
      try simp only [hR4.e2, hR4.e14, hR4.e15, hR4.e17, hR4.e18, hR4.e36, hR4.e42, hR4.e49, hR4.e62, hR4.a3, hR4.a6, hR4.a51, hR4.a19, hR4.a63, hR4.a64, hR4.hp, hR.e18, hR2.e49]
      refine ⟨(by (repeat (first | exact hR4 | refine Rj.i ?_ rfl | refine Rj.a ?_ rfl | refine Rj.m ?_ | refine Rj.s ?_ (by decide) | refine Rj.o1 ?_ (by first | lia | (dsimp only [Nat.beq, gI_sI, gI_sL, gI_sA, gI_sM, gL_sI, gL_sL, gL_sA, gL_sM, aI_sI, aI_sL, aI_sA, aI_sM, aL_sI, aL_sL, aL_sA, aL_sM]; lia)) | refine Rj.o2 ?_ | refine Rj.f1 ?_ (by first | lia | (dsimp only [Nat.beq, gI_sI, gI_sL, gI_sA, gI_sM, gL_sI, gL_sL, gL_sA, gL_sM, aI_sI, aI_sL, aI_sA, aI_sM, aL_sI, aL_sL, aL_sA, aL_sM]; lia)) | refine Rj.f2 ?_ | refine Rj.fs ?_))), fun w9 τ9 w9' τ9' hq9 => ?_⟩
      obtain ⟨b9, rfl, rfl, hb9⟩ := hq9
      rcases hb9 with rfl | ⟨rfl, hR9, hk9⟩
      · dsimp only [Option.toList, List.cons_append, List.nil_append, Nat.beq, gI_sI, gI_sL, gI_sA, gI_sM, gL_sI, gL_sL, gL_sA, gL_sM, aI_sI, aI_sL, aI_sA, aI_sM, aL_sI, aL_sL, aL_sA, aL_sM]
        try simp only [hR4.e2, hR4.e14, hR4.e15, hR4.e17, hR4.e18, hR4.e36, hR4.e42, hR4.e49, hR4.e62, hR4.a3, hR4.a6, hR4.a51, hR4.a19, hR4.a63, hR4.a64, hR4.hp, hR.e18, hR2.e49]
        refine ⟨fun h10 => absurd h10 (by decide), fun h10 => ⟨(by exact h10), ?_⟩⟩
        clear h10
        refine hB _ _ _ _ _ _ _ _ (fun m11 hm11 => ?_)
        dsimp only [jgo, jwp, jst, jct, rfd, BswitchOf, Nat.beq, lv_args, rlk, rs1, rs2, rdl, rky, rcd, rno, rsw, Value.category, List.filter, List.take, List.drop, List.reverse, List.reverseAux, List.cons_append, List.nil_append, Option.toList, Int.toNat, Int.reduceToNat, if_pos, if_neg, reduceIte, ↓reduceIte, Nat.reduceAdd, Nat.reduceEqDiff, Nat.reduceBEq, beq_self_eq_true, Bool.not_true, Bool.not_false, Bool.and_true, Bool.and_false, Bool.true_and, Bool.false_and, gI_sI, gI_sL, gI_sA, gI_sM, gL_sI, gL_sL, gL_sA, gL_sM, aI_sI, aI_sL, aI_sA, aI_sM, aL_sI, aL_sL, aL_sA, aL_sM, BswitchOf_0, BswitchOf_29, BswitchOf_36, BswitchOf_38, BswitchOf_61, BswitchOf_72, BswitchOf_76, BswitchOf_77, oi_0, oi_1, oi_123, oi_20, oi_37, oi_8, Pj_condition, Pu_emit, Pj_open, Pj_take, Pu_thing, Pj_want]; try dsimp only
        try simp only [hR4.e2, hR4.e14, hR4.e15, hR4.e17, hR4.e18, hR4.e36, hR4.e42, hR4.e49, hR4.e62, hR4.a3, hR4.a6, hR4.a51, hR4.a19, hR4.a63, hR4.a64, hR4.hp, hR.e18, hR2.e49]
        unfold Qj_switchOf
        try dsimp only
        exact ⟨_, rfl, rfl, Or.inl rfl⟩
      · dsimp only [Option.toList, List.cons_append, List.nil_append, Nat.beq, gI_sI, gI_sL, gI_sA, gI_sM, gL_sI, gL_sL, gL_sA, gL_sM, aI_sI, aI_sL, aI_sA, aI_sM, aL_sI, aL_sL, aL_sA, aL_sM]
        have hh9 := hk9.1 62 rfl
        have hg9 := hk9.1 49 rfl
        try dsimp only [Nat.beq, gI_sI, gI_sL, gI_sA, gI_sM, gL_sI, gL_sL, gL_sA, gL_sM, aI_sI, aI_sL, aI_sA, aI_sM, aL_sI, aL_sL, aL_sA, aL_sM] at hh9
        try dsimp only [Nat.beq, gI_sI, gI_sL, gI_sA, gI_sM, gL_sI, gL_sL, gL_sA, gL_sM, aI_sI, aI_sL, aI_sA, aI_sM, aL_sI, aL_sL, aL_sA, aL_sM] at hg9
        try simp only [hR9.e2, hR9.e14, hR9.e15, hR9.e17, hR9.e18, hR9.e36, hR9.e42, hR9.e49, hR9.e62, hR9.a3, hR9.a6, hR9.a51, hR9.a19, hR9.a63, hR9.a64, hR9.hp, hR.e18, hR2.e49]
        refine ⟨fun h12 => ⟨(by exact h12), ?_⟩, fun h12 => absurd h12 (by decide)⟩
        clear h12
        refine hB _ _ _ _ _ _ _ _ (fun m13 hm13 => ?_)
        dsimp only [jgo, jwp, jst, jct, rfd, BswitchOf, Nat.beq, lv_args, rlk, rs1, rs2, rdl, rky, rcd, rno, rsw, Value.category, List.filter, List.take, List.drop, List.reverse, List.reverseAux, List.cons_append, List.nil_append, Option.toList, Int.toNat, Int.reduceToNat, if_pos, if_neg, reduceIte, ↓reduceIte, Nat.reduceAdd, Nat.reduceEqDiff, Nat.reduceBEq, beq_self_eq_true, Bool.not_true, Bool.not_false, Bool.and_true, Bool.and_false, Bool.true_and, Bool.false_and, gI_sI, gI_sL, gI_sA, gI_sM, gL_sI, gL_sL, gL_sA, gL_sM, aI_sI, aI_sL, aI_sA, aI_sM, aL_sI, aL_sL, aL_sA, aL_sM, BswitchOf_0, BswitchOf_29, BswitchOf_36, BswitchOf_38, BswitchOf_61, BswitchOf_72, BswitchOf_76, BswitchOf_77, oi_0, oi_1, oi_123, oi_20, oi_37, oi_8, Pj_condition, Pu_emit, Pj_open, Pj_take, Pu_thing, Pj_want]; try dsimp only
        try simp only [hR9.e2, hR9.e14, hR9.e15, hR9.e17, hR9.e18, hR9.e36, hR9.e42, hR9.e49, hR9.e62, hR9.a3, hR9.a6, hR9.a51, hR9.a19, hR9.a63, hR9.a64, hR9.hp, hR.e18, hR2.e49]
        refine ⟨⟨trivial, trivial⟩, fun w14 τ14 w14' τ14' hq14 => ?_⟩
        obtain ⟨⟨rfl, hE14⟩, rfl, hF14⟩ := hq14
        have hR14 : Rj 1 τ14 τ14' := Rj.em (by (repeat (first | exact hR9 | refine Rj.i ?_ rfl | refine Rj.a ?_ rfl | refine Rj.m ?_ | refine Rj.s ?_ (by decide) | refine Rj.o1 ?_ (by first | lia | (dsimp only [Nat.beq, gI_sI, gI_sL, gI_sA, gI_sM, gL_sI, gL_sL, gL_sA, gL_sM, aI_sI, aI_sL, aI_sA, aI_sM, aL_sI, aL_sL, aL_sA, aL_sM]; lia)) | refine Rj.o2 ?_ | refine Rj.f1 ?_ (by first | lia | (dsimp only [Nat.beq, gI_sI, gI_sL, gI_sA, gI_sM, gL_sI, gL_sL, gL_sA, gL_sM, aI_sI, aI_sL, aI_sA, aI_sM, aL_sI, aL_sL, aL_sA, aL_sM]; lia)) | refine Rj.f2 ?_ | refine Rj.fs ?_))) hE14 hF14 (by first | exact fun _ => rfl | exact fun q => absurd q (by decide))
        have hp14 := hE14.1 14 (by decide)
        have ho14 := hE14.1 29 (by decide)
        have hh14 := hE14.1 62 (by decide)
        have hg14 := hE14.1 49 (by decide)
        have hw14 := hE14.1 34 (by decide)
        have hv14 := hF14.1 34 (by decide)
        have ht14 := hE14.2.2.2.2.1 3 (by decide)
        try dsimp only [Nat.beq, gI_sI, gI_sL, gI_sA, gI_sM, gL_sI, gL_sL, gL_sA, gL_sM, aI_sI, aI_sL, aI_sA, aI_sM, aL_sI, aL_sL, aL_sA, aL_sM] at hp14
        try dsimp only [Nat.beq, gI_sI, gI_sL, gI_sA, gI_sM, gL_sI, gL_sL, gL_sA, gL_sM, aI_sI, aI_sL, aI_sA, aI_sM, aL_sI, aL_sL, aL_sA, aL_sM] at ho14
        try dsimp only [Nat.beq, gI_sI, gI_sL, gI_sA, gI_sM, gL_sI, gL_sL, gL_sA, gL_sM, aI_sI, aI_sL, aI_sA, aI_sM, aL_sI, aL_sL, aL_sA, aL_sM] at hh14
        try dsimp only [Nat.beq, gI_sI, gI_sL, gI_sA, gI_sM, gL_sI, gL_sL, gL_sA, gL_sM, aI_sI, aI_sL, aI_sA, aI_sM, aL_sI, aL_sL, aL_sA, aL_sM] at hg14
        try dsimp only [Nat.beq, gI_sI, gI_sL, gI_sA, gI_sM, gL_sI, gL_sL, gL_sA, gL_sM, aI_sI, aI_sL, aI_sA, aI_sM, aL_sI, aL_sL, aL_sA, aL_sM] at hw14
        try dsimp only [Nat.beq, gI_sI, gI_sL, gI_sA, gI_sM, gL_sI, gL_sL, gL_sA, gL_sM, aI_sI, aI_sL, aI_sA, aI_sM, aL_sI, aL_sL, aL_sA, aL_sM] at hv14
        try dsimp only [Nat.beq, gI_sI, gI_sL, gI_sA, gI_sM, gL_sI, gL_sL, gL_sA, gL_sM, aI_sI, aI_sL, aI_sA, aI_sM, aL_sI, aL_sL, aL_sA, aL_sM] at ht14
        have hz14 := congrFun ht14 (gI τ14 14).toNatClampNeg
        dsimp only [Option.toList, List.cons_append, List.nil_append, Nat.beq, gI_sI, gI_sL, gI_sA, gI_sM, gL_sI, gL_sL, gL_sA, gL_sM, aI_sI, aI_sL, aI_sA, aI_sM, aL_sI, aL_sL, aL_sA, aL_sM]
        try simp only [hR14.e2, hR14.e14, hR14.e15, hR14.e17, hR14.e18, hR14.e36, hR14.e42, hR14.e49, hR14.e62, hR14.a3, hR14.a6, hR14.a51, hR14.a19, hR14.a63, hR14.a64, hR14.hp, hR.e18, hR2.e49, hR9.e18]
        intro p15 q15
        try simp only [hR14.e2, hR14.e14, hR14.e15, hR14.e17, hR14.e18, hR14.e36, hR14.e42, hR14.e49, hR14.e62, hR14.a3, hR14.a6, hR14.a51, hR14.a19, hR14.a63, hR14.a64, hR14.hp, hR.e18, hR2.e49, hR9.e18]
        refine ⟨⟨(Rj.w (md := 1) (by (repeat (first | exact hR14 | refine Rj.i ?_ rfl | refine Rj.a ?_ rfl | refine Rj.m ?_ | refine Rj.s ?_ (by decide) | refine Rj.o1 ?_ (by first | lia | (dsimp only [Nat.beq, gI_sI, gI_sL, gI_sA, gI_sM, gL_sI, gL_sL, gL_sA, gL_sM, aI_sI, aI_sL, aI_sA, aI_sM, aL_sI, aL_sL, aL_sA, aL_sM]; lia)) | refine Rj.o2 ?_ | refine Rj.f1 ?_ (by first | lia | (dsimp only [Nat.beq, gI_sI, gI_sL, gI_sA, gI_sM, gL_sI, gL_sL, gL_sA, gL_sM, aI_sI, aI_sL, aI_sA, aI_sM, aL_sI, aL_sL, aL_sA, aL_sM]; lia)) | refine Rj.f2 ?_ | refine Rj.fs ?_)))), (by first | exact True.intro | rfl)⟩, fun w16 τ16 w16' τ16' hq16 => ?_⟩
        obtain ⟨b16, rfl, rfl, hb16⟩ := hq16
        rcases hb16 with rfl | ⟨rfl, hr16, hk16, hx16⟩
        · dsimp only [Option.toList, List.cons_append, List.nil_append, Nat.beq, gI_sI, gI_sL, gI_sA, gI_sM, gL_sI, gL_sL, gL_sA, gL_sM, aI_sI, aI_sL, aI_sA, aI_sM, aL_sI, aL_sL, aL_sA, aL_sM]
          try simp only [hR14.e2, hR14.e14, hR14.e15, hR14.e17, hR14.e18, hR14.e36, hR14.e42, hR14.e49, hR14.e62, hR14.a3, hR14.a6, hR14.a51, hR14.a19, hR14.a63, hR14.a64, hR14.hp, hR.e18, hR2.e49, hR9.e18]
          refine ⟨fun h17 => ⟨(by exact h17), ?_⟩, fun h17 => absurd h17 (by decide)⟩
          clear h17
          refine hB _ _ _ _ _ _ _ _ (fun m18 hm18 => ?_)
          dsimp only [jgo, jwp, jst, jct, rfd, BswitchOf, Nat.beq, lv_args, rlk, rs1, rs2, rdl, rky, rcd, rno, rsw, Value.category, List.filter, List.take, List.drop, List.reverse, List.reverseAux, List.cons_append, List.nil_append, Option.toList, Int.toNat, Int.reduceToNat, if_pos, if_neg, reduceIte, ↓reduceIte, Nat.reduceAdd, Nat.reduceEqDiff, Nat.reduceBEq, beq_self_eq_true, Bool.not_true, Bool.not_false, Bool.and_true, Bool.and_false, Bool.true_and, Bool.false_and, gI_sI, gI_sL, gI_sA, gI_sM, gL_sI, gL_sL, gL_sA, gL_sM, aI_sI, aI_sL, aI_sA, aI_sM, aL_sI, aL_sL, aL_sA, aL_sM, BswitchOf_0, BswitchOf_29, BswitchOf_36, BswitchOf_38, BswitchOf_61, BswitchOf_72, BswitchOf_76, BswitchOf_77, oi_0, oi_1, oi_123, oi_20, oi_37, oi_8, Pj_condition, Pu_emit, Pj_open, Pj_take, Pu_thing, Pj_want]; try dsimp only
          try simp only [hR14.e2, hR14.e14, hR14.e15, hR14.e17, hR14.e18, hR14.e36, hR14.e42, hR14.e49, hR14.e62, hR14.a3, hR14.a6, hR14.a51, hR14.a19, hR14.a63, hR14.a64, hR14.hp, hR.e18, hR2.e49, hR9.e18]
          refine hB _ _ _ _ _ _ _ _ (fun m19 hm19 => ?_)
          dsimp only [jgo, jwp, jst, jct, rfd, BswitchOf, Nat.beq, lv_args, rlk, rs1, rs2, rdl, rky, rcd, rno, rsw, Value.category, List.filter, List.take, List.drop, List.reverse, List.reverseAux, List.cons_append, List.nil_append, Option.toList, Int.toNat, Int.reduceToNat, if_pos, if_neg, reduceIte, ↓reduceIte, Nat.reduceAdd, Nat.reduceEqDiff, Nat.reduceBEq, beq_self_eq_true, Bool.not_true, Bool.not_false, Bool.and_true, Bool.and_false, Bool.true_and, Bool.false_and, gI_sI, gI_sL, gI_sA, gI_sM, gL_sI, gL_sL, gL_sA, gL_sM, aI_sI, aI_sL, aI_sA, aI_sM, aL_sI, aL_sL, aL_sA, aL_sM, BswitchOf_0, BswitchOf_29, BswitchOf_36, BswitchOf_38, BswitchOf_61, BswitchOf_72, BswitchOf_76, BswitchOf_77, oi_0, oi_1, oi_123, oi_20, oi_37, oi_8, Pj_condition, Pu_emit, Pj_open, Pj_take, Pu_thing, Pj_want]; try dsimp only
          try simp only [hR14.e2, hR14.e14, hR14.e15, hR14.e17, hR14.e18, hR14.e36, hR14.e42, hR14.e49, hR14.e62, hR14.a3, hR14.a6, hR14.a51, hR14.a19, hR14.a63, hR14.a64, hR14.hp, hR.e18, hR2.e49, hR9.e18]
          unfold Qj_switchOf
          try dsimp only
          exact ⟨_, rfl, rfl, Or.inl rfl⟩
        · dsimp only [Option.toList, List.cons_append, List.nil_append, Nat.beq, gI_sI, gI_sL, gI_sA, gI_sM, gL_sI, gL_sL, gL_sA, gL_sM, aI_sI, aI_sL, aI_sA, aI_sM, aL_sI, aL_sL, aL_sA, aL_sM]
          have hR16 : Rj 1 τ16 τ16' := hr16 _ (by (repeat (first | exact hR14 | refine Rj.i ?_ rfl | refine Rj.a ?_ rfl | refine Rj.m ?_ | refine Rj.s ?_ (by decide) | refine Rj.o1 ?_ (by first | lia | (dsimp only [Nat.beq, gI_sI, gI_sL, gI_sA, gI_sM, gL_sI, gL_sL, gL_sA, gL_sM, aI_sI, aI_sL, aI_sA, aI_sM, aL_sI, aL_sL, aL_sA, aL_sM]; lia)) | refine Rj.o2 ?_ | refine Rj.f1 ?_ (by first | lia | (dsimp only [Nat.beq, gI_sI, gI_sL, gI_sA, gI_sM, gL_sI, gL_sL, gL_sA, gL_sM, aI_sI, aI_sL, aI_sA, aI_sM, aL_sI, aL_sL, aL_sA, aL_sM]; lia)) | refine Rj.f2 ?_ | refine Rj.fs ?_)))
          have ht16 := hk16.2 3 rfl
          have hc16 := hk16.1 2 rfl
          try dsimp only [Nat.beq, gI_sI, gI_sL, gI_sA, gI_sM, gL_sI, gL_sL, gL_sA, gL_sM, aI_sI, aI_sL, aI_sA, aI_sM, aL_sI, aL_sL, aL_sA, aL_sM] at hx16
          try dsimp only [Nat.beq, gI_sI, gI_sL, gI_sA, gI_sM, gL_sI, gL_sL, gL_sA, gL_sM, aI_sI, aI_sL, aI_sA, aI_sM, aL_sI, aL_sL, aL_sA, aL_sM] at ht16
          try dsimp only [Nat.beq, gI_sI, gI_sL, gI_sA, gI_sM, gL_sI, gL_sL, gL_sA, gL_sM, aI_sI, aI_sL, aI_sA, aI_sM, aL_sI, aL_sL, aL_sA, aL_sM] at hc16
          have hh16 := hk16.1 62 rfl
          have hg16 := hk16.1 49 rfl
          try dsimp only [Nat.beq, gI_sI, gI_sL, gI_sA, gI_sM, gL_sI, gL_sL, gL_sA, gL_sM, aI_sI, aI_sL, aI_sA, aI_sM, aL_sI, aL_sL, aL_sA, aL_sM] at hh16
          try dsimp only [Nat.beq, gI_sI, gI_sL, gI_sA, gI_sM, gL_sI, gL_sL, gL_sA, gL_sM, aI_sI, aI_sL, aI_sA, aI_sM, aL_sI, aL_sL, aL_sA, aL_sM] at hg16
          have hz16 := congrFun ht16 (gI τ16 14).toNatClampNeg
          try simp only [hR16.e2, hR16.e14, hR16.e15, hR16.e17, hR16.e18, hR16.e36, hR16.e42, hR16.e49, hR16.e62, hR16.a3, hR16.a6, hR16.a51, hR16.a19, hR16.a63, hR16.a64, hR16.hp, hR.e18, hR2.e49, hR9.e18]
          refine ⟨fun h20 => absurd h20 (by decide), fun h20 => ⟨(by exact h20), ?_⟩⟩
          clear h20
          refine hB _ _ _ _ _ _ _ _ (fun m21 hm21 => ?_)
          dsimp only [jgo, jwp, jst, jct, rfd, BswitchOf, Nat.beq, lv_args, rlk, rs1, rs2, rdl, rky, rcd, rno, rsw, Value.category, List.filter, List.take, List.drop, List.reverse, List.reverseAux, List.cons_append, List.nil_append, Option.toList, Int.toNat, Int.reduceToNat, if_pos, if_neg, reduceIte, ↓reduceIte, Nat.reduceAdd, Nat.reduceEqDiff, Nat.reduceBEq, beq_self_eq_true, Bool.not_true, Bool.not_false, Bool.and_true, Bool.and_false, Bool.true_and, Bool.false_and, gI_sI, gI_sL, gI_sA, gI_sM, gL_sI, gL_sL, gL_sA, gL_sM, aI_sI, aI_sL, aI_sA, aI_sM, aL_sI, aL_sL, aL_sA, aL_sM, BswitchOf_0, BswitchOf_29, BswitchOf_36, BswitchOf_38, BswitchOf_61, BswitchOf_72, BswitchOf_76, BswitchOf_77, oi_0, oi_1, oi_123, oi_20, oi_37, oi_8, Pj_condition, Pu_emit, Pj_open, Pj_take, Pu_thing, Pj_want]; try dsimp only
          try simp only [hR16.e2, hR16.e14, hR16.e15, hR16.e17, hR16.e18, hR16.e36, hR16.e42, hR16.e49, hR16.e62, hR16.a3, hR16.a6, hR16.a51, hR16.a19, hR16.a63, hR16.a64, hR16.hp, hR.e18, hR2.e49, hR9.e18]
          refine ⟨⟨(by (repeat (first | exact hR16 | refine Rj.i ?_ rfl | refine Rj.a ?_ rfl | refine Rj.m ?_ | refine Rj.s ?_ (by decide) | refine Rj.o1 ?_ (by first | lia | (dsimp only [Nat.beq, gI_sI, gI_sL, gI_sA, gI_sM, gL_sI, gL_sL, gL_sA, gL_sM, aI_sI, aI_sL, aI_sA, aI_sM, aL_sI, aL_sL, aL_sA, aL_sM]; lia)) | refine Rj.o2 ?_ | refine Rj.f1 ?_ (by first | lia | (dsimp only [Nat.beq, gI_sI, gI_sL, gI_sA, gI_sM, gL_sI, gL_sL, gL_sA, gL_sM, aI_sI, aI_sL, aI_sA, aI_sM, aL_sI, aL_sL, aL_sA, aL_sM]; lia)) | refine Rj.f2 ?_ | refine Rj.fs ?_))), (by first | exact True.intro | rfl), (by first | exact True.intro | rfl), by lia⟩, fun w22 τ22 w22' τ22' hq22 => ?_⟩
          obtain ⟨b22, rfl, rfl, hb22⟩ := hq22
          rcases hb22 with rfl | ⟨rfl, hR22⟩
          · dsimp only [Option.toList, List.cons_append, List.nil_append, Nat.beq, gI_sI, gI_sL, gI_sA, gI_sM, gL_sI, gL_sL, gL_sA, gL_sM, aI_sI, aI_sL, aI_sA, aI_sM, aL_sI, aL_sL, aL_sA, aL_sM]
            try simp only [hR16.e2, hR16.e14, hR16.e15, hR16.e17, hR16.e18, hR16.e36, hR16.e42, hR16.e49, hR16.e62, hR16.a3, hR16.a6, hR16.a51, hR16.a19, hR16.a63, hR16.a64, hR16.hp, hR.e18, hR2.e49, hR9.e18]
            refine ⟨fun h23 => ⟨(by exact h23), ?_⟩, fun h23 => absurd h23 (by decide)⟩
            clear h23
            refine hB _ _ _ _ _ _ _ _ (fun m24 hm24 => ?_)
            dsimp only [jgo, jwp, jst, jct, rfd, BswitchOf, Nat.beq, lv_args, rlk, rs1, rs2, rdl, rky, rcd, rno, rsw, Value.category, List.filter, List.take, List.drop, List.reverse, List.reverseAux, List.cons_append, List.nil_append, Option.toList, Int.toNat, Int.reduceToNat, if_pos, if_neg, reduceIte, ↓reduceIte, Nat.reduceAdd, Nat.reduceEqDiff, Nat.reduceBEq, beq_self_eq_true, Bool.not_true, Bool.not_false, Bool.and_true, Bool.and_false, Bool.true_and, Bool.false_and, gI_sI, gI_sL, gI_sA, gI_sM, gL_sI, gL_sL, gL_sA, gL_sM, aI_sI, aI_sL, aI_sA, aI_sM, aL_sI, aL_sL, aL_sA, aL_sM, BswitchOf_0, BswitchOf_29, BswitchOf_36, BswitchOf_38, BswitchOf_61, BswitchOf_72, BswitchOf_76, BswitchOf_77, oi_0, oi_1, oi_123, oi_20, oi_37, oi_8, Pj_condition, Pu_emit, Pj_open, Pj_take, Pu_thing, Pj_want]; try dsimp only
            try simp only [hR16.e2, hR16.e14, hR16.e15, hR16.e17, hR16.e18, hR16.e36, hR16.e42, hR16.e49, hR16.e62, hR16.a3, hR16.a6, hR16.a51, hR16.a19, hR16.a63, hR16.a64, hR16.hp, hR.e18, hR2.e49, hR9.e18]
            refine hB _ _ _ _ _ _ _ _ (fun m25 hm25 => ?_)
            dsimp only [jgo, jwp, jst, jct, rfd, BswitchOf, Nat.beq, lv_args, rlk, rs1, rs2, rdl, rky, rcd, rno, rsw, Value.category, List.filter, List.take, List.drop, List.reverse, List.reverseAux, List.cons_append, List.nil_append, Option.toList, Int.toNat, Int.reduceToNat, if_pos, if_neg, reduceIte, ↓reduceIte, Nat.reduceAdd, Nat.reduceEqDiff, Nat.reduceBEq, beq_self_eq_true, Bool.not_true, Bool.not_false, Bool.and_true, Bool.and_false, Bool.true_and, Bool.false_and, gI_sI, gI_sL, gI_sA, gI_sM, gL_sI, gL_sL, gL_sA, gL_sM, aI_sI, aI_sL, aI_sA, aI_sM, aL_sI, aL_sL, aL_sA, aL_sM, BswitchOf_0, BswitchOf_29, BswitchOf_36, BswitchOf_38, BswitchOf_61, BswitchOf_72, BswitchOf_76, BswitchOf_77, oi_0, oi_1, oi_123, oi_20, oi_37, oi_8, Pj_condition, Pu_emit, Pj_open, Pj_take, Pu_thing, Pj_want]; try dsimp only
            try simp only [hR16.e2, hR16.e14, hR16.e15, hR16.e17, hR16.e18, hR16.e36, hR16.e42, hR16.e49, hR16.e62, hR16.a3, hR16.a6, hR16.a51, hR16.a19, hR16.a63, hR16.a64, hR16.hp, hR.e18, hR2.e49, hR9.e18]
            unfold Qj_switchOf
            try dsimp only
            exact ⟨_, rfl, rfl, Or.inl rfl⟩
          · dsimp only [Option.toList, List.cons_append, List.nil_append, Nat.beq, gI_sI, gI_sL, gI_sA, gI_sM, gL_sI, gL_sL, gL_sA, gL_sM, aI_sI, aI_sL, aI_sA, aI_sM, aL_sI, aL_sL, aL_sA, aL_sM]
            try simp only [hR22.e2, hR22.e14, hR22.e15, hR22.e17, hR22.e18, hR22.e36, hR22.e42, hR22.e49, hR22.e62, hR22.a3, hR22.a6, hR22.a51, hR22.a19, hR22.a63, hR22.a64, hR22.hp, hR.e18, hR2.e49, hR9.e18]
            refine ⟨fun h26 => absurd h26 (by decide), fun h26 => ⟨(by exact h26), ?_⟩⟩
            clear h26
            refine hB _ _ _ _ _ _ _ _ (fun m27 hm27 => ?_)
            dsimp only [jgo, jwp, jst, jct, rfd, BswitchOf, Nat.beq, lv_args, rlk, rs1, rs2, rdl, rky, rcd, rno, rsw, Value.category, List.filter, List.take, List.drop, List.reverse, List.reverseAux, List.cons_append, List.nil_append, Option.toList, Int.toNat, Int.reduceToNat, if_pos, if_neg, reduceIte, ↓reduceIte, Nat.reduceAdd, Nat.reduceEqDiff, Nat.reduceBEq, beq_self_eq_true, Bool.not_true, Bool.not_false, Bool.and_true, Bool.and_false, Bool.true_and, Bool.false_and, gI_sI, gI_sL, gI_sA, gI_sM, gL_sI, gL_sL, gL_sA, gL_sM, aI_sI, aI_sL, aI_sA, aI_sM, aL_sI, aL_sL, aL_sA, aL_sM, BswitchOf_0, BswitchOf_29, BswitchOf_36, BswitchOf_38, BswitchOf_61, BswitchOf_72, BswitchOf_76, BswitchOf_77, oi_0, oi_1, oi_123, oi_20, oi_37, oi_8, Pj_condition, Pu_emit, Pj_open, Pj_take, Pu_thing, Pj_want]; try dsimp only
            try simp only [hR22.e2, hR22.e14, hR22.e15, hR22.e17, hR22.e18, hR22.e36, hR22.e42, hR22.e49, hR22.e62, hR22.a3, hR22.a6, hR22.a51, hR22.a19, hR22.a63, hR22.a64, hR22.hp, hR.e18, hR2.e49, hR9.e18]
            refine hB _ _ _ _ _ _ _ _ (fun m28 hm28 => ?_)
            dsimp only [jgo, jwp, jst, jct, rfd, BswitchOf, Nat.beq, lv_args, rlk, rs1, rs2, rdl, rky, rcd, rno, rsw, Value.category, List.filter, List.take, List.drop, List.reverse, List.reverseAux, List.cons_append, List.nil_append, Option.toList, Int.toNat, Int.reduceToNat, if_pos, if_neg, reduceIte, ↓reduceIte, Nat.reduceAdd, Nat.reduceEqDiff, Nat.reduceBEq, beq_self_eq_true, Bool.not_true, Bool.not_false, Bool.and_true, Bool.and_false, Bool.true_and, Bool.false_and, gI_sI, gI_sL, gI_sA, gI_sM, gL_sI, gL_sL, gL_sA, gL_sM, aI_sI, aI_sL, aI_sA, aI_sM, aL_sI, aL_sL, aL_sA, aL_sM, BswitchOf_0, BswitchOf_29, BswitchOf_36, BswitchOf_38, BswitchOf_61, BswitchOf_72, BswitchOf_76, BswitchOf_77, oi_0, oi_1, oi_123, oi_20, oi_37, oi_8, Pj_condition, Pu_emit, Pj_open, Pj_take, Pu_thing, Pj_want]; try dsimp only
            try simp only [hR22.e2, hR22.e14, hR22.e15, hR22.e17, hR22.e18, hR22.e36, hR22.e42, hR22.e49, hR22.e62, hR22.a3, hR22.a6, hR22.a51, hR22.a19, hR22.a63, hR22.a64, hR22.hp, hR.e18, hR2.e49, hR9.e18]
            unfold Qj_switchOf
            try dsimp only
            exact ⟨_, rfl, rfl, Or.inr ⟨rfl, by (repeat (first | exact hR22 | refine Rj.i ?_ rfl | refine Rj.a ?_ rfl | refine Rj.m ?_ | refine Rj.s ?_ (by decide) | refine Rj.o1 ?_ (by first | lia | (dsimp only [Nat.beq, gI_sI, gI_sL, gI_sA, gI_sM, gL_sI, gL_sL, gL_sA, gL_sM, aI_sI, aI_sL, aI_sA, aI_sM, aL_sI, aL_sL, aL_sA, aL_sM]; lia)) | refine Rj.o2 ?_ | refine Rj.f1 ?_ (by first | lia | (dsimp only [Nat.beq, gI_sI, gI_sL, gI_sA, gI_sM, gL_sI, gL_sL, gL_sA, gL_sM, aI_sI, aI_sL, aI_sA, aI_sM, aL_sI, aL_sL, aL_sA, aL_sM]; lia)) | refine Rj.f2 ?_ | refine Rj.fs ?_))⟩⟩
  next => exact hP.elim
def Pj_gives : JPr := fun A1 A2 σ ρ => match A1, A2 with
  | [], [] => Rj 1 σ ρ ∧ aI σ 3 (gI σ 14).toNatClampNeg = 4
  | _, _ => False
def Qj_gives : JQr := fun A1 A2 σ ρ w τ w' τ' => match A1, A2 with
  | [], [] => ∃ b : Int32, w = some (.int b) ∧ w' = some (.int b) ∧ (b = 0 ∨ (b = 1 ∧ Rj 1 τ τ'))
  | _, _ => False
set_option maxRecDepth 100000 in
set_option maxHeartbeats 4000000 in
theorem j_gives : JMet 65 Pj_gives Qj_gives := by
  refine JMet.by Bgives [(20, (fun A1 A2 σ ρ => Pu_emit A1 σ ∧ Pu_emit A2 ρ), (fun A1 A2 σ ρ w τ w' τ' => Qu_emit A1 σ w τ ∧ Qu_emit A2 ρ w' τ')), (27, Pj_expression, Qj_expression), (69, Pj_finished, Qj_finished), (14, Pj_isSign, Qj_isSign), (15, Pj_isWord, Qj_isWord), (17, Pj_take, Qj_take), (18, Pj_want, Qj_want)] rfl (jcc (JMet.u u_emit) (jcc j_expression (jcc j_finished (jcc j_isSign (jcc j_isWord (jcc j_take (jcc j_want jc0))))))) ?_
  intro A1 A2 σ ρ hP K hB hW
  unfold Pj_gives at hP
  split at hP
  next =>
    obtain ⟨hR, htk⟩ := hP
    intro n0
    refine hB _ _ _ _ _ _ _ _ (fun m1 hm1 => ?_)
    dsimp only [jgo, jwp, jst, jct, rfd, Bgives, Nat.beq, lv_args, rlk, rs1, rs2, rdl, rky, rcd, rno, rsw, Value.category, List.filter, List.take, List.drop, List.reverse, List.reverseAux, List.cons_append, List.nil_append, Option.toList, Int.toNat, Int.reduceToNat, if_pos, if_neg, reduceIte, ↓reduceIte, Nat.reduceAdd, Nat.reduceEqDiff, Nat.reduceBEq, beq_self_eq_true, Bool.not_true, Bool.not_false, Bool.and_true, Bool.and_false, Bool.true_and, Bool.false_and, gI_sI, gI_sL, gI_sA, gI_sM, gL_sI, gL_sL, gL_sA, gL_sM, aI_sI, aI_sL, aI_sA, aI_sM, aL_sI, aL_sL, aL_sA, aL_sM, Bgives_0, Bgives_28, Bgives_30, Bgives_34, Bgives_43, Bgives_47, Bgives_48, Bgives_55, Bgives_62, Bgives_64, Bgives_69, Bgives_74, Bgives_76, Bgives_81, Bgives_85, Bgives_86, Bgives_103, Bgives_110, Bgives_112, Bgives_122, Bgives_124, oi_0, oi_1, oi_17, oi_20, oi_45, oi_48, oi_49, oi_59, oi_m2, Pu_emit, Pj_expression, Pj_finished, Pj_isSign, Pj_isWord, Pj_take, Pj_want]; try dsimp only
    try simp only [hR.e2, hR.e14, hR.e15, hR.e17, hR.e18, hR.e36, hR.e42, hR.e49, hR.e62, hR.a3, hR.a6, hR.a51, hR.a19, hR.a63, hR.a64, hR.hp]
    refine ⟨⟨(Rj.w (md := 1) (by (repeat (first | exact hR | refine Rj.i ?_ rfl | refine Rj.a ?_ rfl | refine Rj.m ?_ | refine Rj.s ?_ (by decide) | refine Rj.o1 ?_ (by first | lia | (dsimp only [Nat.beq, gI_sI, gI_sL, gI_sA, gI_sM, gL_sI, gL_sL, gL_sA, gL_sM, aI_sI, aI_sL, aI_sA, aI_sM, aL_sI, aL_sL, aL_sA, aL_sM]; lia)) | refine Rj.o2 ?_ | refine Rj.f1 ?_ (by first | lia | (dsimp only [Nat.beq, gI_sI, gI_sL, gI_sA, gI_sM, gL_sI, gL_sL, gL_sA, gL_sM, aI_sI, aI_sL, aI_sA, aI_sM, aL_sI, aL_sL, aL_sA, aL_sM]; lia)) | refine Rj.f2 ?_ | refine Rj.fs ?_)))), (by first | exact True.intro | rfl)⟩, fun w2 τ2 w2' τ2' hq2 => ?_⟩
    obtain ⟨b2, rfl, rfl, rfl, rfl, hb2⟩ := hq2
    rcases hb2 with rfl | ⟨rfl, hf2⟩
    · dsimp only [Option.toList, List.cons_append, List.nil_append, Nat.beq, gI_sI, gI_sL, gI_sA, gI_sM, gL_sI, gL_sL, gL_sA, gL_sM, aI_sI, aI_sL, aI_sA, aI_sM, aL_sI, aL_sL, aL_sA, aL_sM]
      try simp only [hR.e2, hR.e14, hR.e15, hR.e17, hR.e18, hR.e36, hR.e42, hR.e49, hR.e62, hR.a3, hR.a6, hR.a51, hR.a19, hR.a63, hR.a64, hR.hp]
      refine ⟨⟨trivial, trivial⟩, fun w3 τ3 w3' τ3' hq3 => ?_⟩
      obtain ⟨⟨rfl, hE3⟩, rfl, hF3⟩ := hq3
      have hR3 : Rj 1 τ3 τ3' := Rj.em (by (repeat (first | exact hR | refine Rj.i ?_ rfl | refine Rj.a ?_ rfl | refine Rj.m ?_ | refine Rj.s ?_ (by decide) | refine Rj.o1 ?_ (by first | lia | (dsimp only [Nat.beq, gI_sI, gI_sL, gI_sA, gI_sM, gL_sI, gL_sL, gL_sA, gL_sM, aI_sI, aI_sL, aI_sA, aI_sM, aL_sI, aL_sL, aL_sA, aL_sM]; lia)) | refine Rj.o2 ?_ | refine Rj.f1 ?_ (by first | lia | (dsimp only [Nat.beq, gI_sI, gI_sL, gI_sA, gI_sM, gL_sI, gL_sL, gL_sA, gL_sM, aI_sI, aI_sL, aI_sA, aI_sM, aL_sI, aL_sL, aL_sA, aL_sM]; lia)) | refine Rj.f2 ?_ | refine Rj.fs ?_))) hE3 hF3 (by first | exact fun _ => rfl | exact fun q => absurd q (by decide))
      have hp3 := hE3.1 14 (by decide)
      have ho3 := hE3.1 29 (by decide)
      have hh3 := hE3.1 62 (by decide)
      have hg3 := hE3.1 49 (by decide)
      have hw3 := hE3.1 34 (by decide)
      have hv3 := hF3.1 34 (by decide)
      have ht3 := hE3.2.2.2.2.1 3 (by decide)
      try dsimp only [Nat.beq, gI_sI, gI_sL, gI_sA, gI_sM, gL_sI, gL_sL, gL_sA, gL_sM, aI_sI, aI_sL, aI_sA, aI_sM, aL_sI, aL_sL, aL_sA, aL_sM] at hp3
      try dsimp only [Nat.beq, gI_sI, gI_sL, gI_sA, gI_sM, gL_sI, gL_sL, gL_sA, gL_sM, aI_sI, aI_sL, aI_sA, aI_sM, aL_sI, aL_sL, aL_sA, aL_sM] at ho3
      try dsimp only [Nat.beq, gI_sI, gI_sL, gI_sA, gI_sM, gL_sI, gL_sL, gL_sA, gL_sM, aI_sI, aI_sL, aI_sA, aI_sM, aL_sI, aL_sL, aL_sA, aL_sM] at hh3
      try dsimp only [Nat.beq, gI_sI, gI_sL, gI_sA, gI_sM, gL_sI, gL_sL, gL_sA, gL_sM, aI_sI, aI_sL, aI_sA, aI_sM, aL_sI, aL_sL, aL_sA, aL_sM] at hg3
      try dsimp only [Nat.beq, gI_sI, gI_sL, gI_sA, gI_sM, gL_sI, gL_sL, gL_sA, gL_sM, aI_sI, aI_sL, aI_sA, aI_sM, aL_sI, aL_sL, aL_sA, aL_sM] at hw3
      try dsimp only [Nat.beq, gI_sI, gI_sL, gI_sA, gI_sM, gL_sI, gL_sL, gL_sA, gL_sM, aI_sI, aI_sL, aI_sA, aI_sM, aL_sI, aL_sL, aL_sA, aL_sM] at hv3
      try dsimp only [Nat.beq, gI_sI, gI_sL, gI_sA, gI_sM, gL_sI, gL_sL, gL_sA, gL_sM, aI_sI, aI_sL, aI_sA, aI_sM, aL_sI, aL_sL, aL_sA, aL_sM] at ht3
      have hz3 := congrFun ht3 (gI τ3 14).toNatClampNeg
      dsimp only [Option.toList, List.cons_append, List.nil_append, Nat.beq, gI_sI, gI_sL, gI_sA, gI_sM, gL_sI, gL_sL, gL_sA, gL_sM, aI_sI, aI_sL, aI_sA, aI_sM, aL_sI, aL_sL, aL_sA, aL_sM]
      try simp only [hR3.e2, hR3.e14, hR3.e15, hR3.e17, hR3.e18, hR3.e36, hR3.e42, hR3.e49, hR3.e62, hR3.a3, hR3.a6, hR3.a51, hR3.a19, hR3.a63, hR3.a64, hR3.hp, hR.e18]
      refine ⟨⟨(Rj.w (md := 1) (by (repeat (first | exact hR3 | refine Rj.i ?_ rfl | refine Rj.a ?_ rfl | refine Rj.m ?_ | refine Rj.s ?_ (by decide) | refine Rj.o1 ?_ (by first | lia | (dsimp only [Nat.beq, gI_sI, gI_sL, gI_sA, gI_sM, gL_sI, gL_sL, gL_sA, gL_sM, aI_sI, aI_sL, aI_sA, aI_sM, aL_sI, aL_sL, aL_sA, aL_sM]; lia)) | refine Rj.o2 ?_ | refine Rj.f1 ?_ (by first | lia | (dsimp only [Nat.beq, gI_sI, gI_sL, gI_sA, gI_sM, gL_sI, gL_sL, gL_sA, gL_sM, aI_sI, aI_sL, aI_sA, aI_sM, aL_sI, aL_sL, aL_sA, aL_sM]; lia)) | refine Rj.f2 ?_ | refine Rj.fs ?_)))), by lia, by lia⟩, fun w4 τ4 w4' τ4' hq4 => ?_⟩
      obtain ⟨b4, rfl, rfl, hb4⟩ := hq4
      rcases hb4 with rfl | ⟨rfl, hr4, hk4, hx4⟩
      · dsimp only [Option.toList, List.cons_append, List.nil_append, Nat.beq, gI_sI, gI_sL, gI_sA, gI_sM, gL_sI, gL_sL, gL_sA, gL_sM, aI_sI, aI_sL, aI_sA, aI_sM, aL_sI, aL_sL, aL_sA, aL_sM]
        try simp only [hR3.e2, hR3.e14, hR3.e15, hR3.e17, hR3.e18, hR3.e36, hR3.e42, hR3.e49, hR3.e62, hR3.a3, hR3.a6, hR3.a51, hR3.a19, hR3.a63, hR3.a64, hR3.hp, hR.e18]
        refine ⟨fun h5 => absurd h5 (by decide), fun h5 => ⟨(by exact h5), ?_⟩⟩
        clear h5
        refine hB _ _ _ _ _ _ _ _ (fun m6 hm6 => ?_)
        dsimp only [jgo, jwp, jst, jct, rfd, Bgives, Nat.beq, lv_args, rlk, rs1, rs2, rdl, rky, rcd, rno, rsw, Value.category, List.filter, List.take, List.drop, List.reverse, List.reverseAux, List.cons_append, List.nil_append, Option.toList, Int.toNat, Int.reduceToNat, if_pos, if_neg, reduceIte, ↓reduceIte, Nat.reduceAdd, Nat.reduceEqDiff, Nat.reduceBEq, beq_self_eq_true, Bool.not_true, Bool.not_false, Bool.and_true, Bool.and_false, Bool.true_and, Bool.false_and, gI_sI, gI_sL, gI_sA, gI_sM, gL_sI, gL_sL, gL_sA, gL_sM, aI_sI, aI_sL, aI_sA, aI_sM, aL_sI, aL_sL, aL_sA, aL_sM, Bgives_0, Bgives_28, Bgives_30, Bgives_34, Bgives_43, Bgives_47, Bgives_48, Bgives_55, Bgives_62, Bgives_64, Bgives_69, Bgives_74, Bgives_76, Bgives_81, Bgives_85, Bgives_86, Bgives_103, Bgives_110, Bgives_112, Bgives_122, Bgives_124, oi_0, oi_1, oi_17, oi_20, oi_45, oi_48, oi_49, oi_59, oi_m2, Pu_emit, Pj_expression, Pj_finished, Pj_isSign, Pj_isWord, Pj_take, Pj_want]; try dsimp only
        try simp only [hR3.e2, hR3.e14, hR3.e15, hR3.e17, hR3.e18, hR3.e36, hR3.e42, hR3.e49, hR3.e62, hR3.a3, hR3.a6, hR3.a51, hR3.a19, hR3.a63, hR3.a64, hR3.hp, hR.e18]
        unfold Qj_gives
        try dsimp only
        exact ⟨_, rfl, rfl, Or.inl rfl⟩
      · dsimp only [Option.toList, List.cons_append, List.nil_append, Nat.beq, gI_sI, gI_sL, gI_sA, gI_sM, gL_sI, gL_sL, gL_sA, gL_sM, aI_sI, aI_sL, aI_sA, aI_sM, aL_sI, aL_sL, aL_sA, aL_sM]
        have hR4 : Rj 1 τ4 τ4' := hr4 _ (by (repeat (first | exact hR3 | refine Rj.i ?_ rfl | refine Rj.a ?_ rfl | refine Rj.m ?_ | refine Rj.s ?_ (by decide) | refine Rj.o1 ?_ (by first | lia | (dsimp only [Nat.beq, gI_sI, gI_sL, gI_sA, gI_sM, gL_sI, gL_sL, gL_sA, gL_sM, aI_sI, aI_sL, aI_sA, aI_sM, aL_sI, aL_sL, aL_sA, aL_sM]; lia)) | refine Rj.o2 ?_ | refine Rj.f1 ?_ (by first | lia | (dsimp only [Nat.beq, gI_sI, gI_sL, gI_sA, gI_sM, gL_sI, gL_sL, gL_sA, gL_sM, aI_sI, aI_sL, aI_sA, aI_sM, aL_sI, aL_sL, aL_sA, aL_sM]; lia)) | refine Rj.f2 ?_ | refine Rj.fs ?_)))
        have ht4 := hk4.2 3 rfl
        have hc4 := hk4.1 2 rfl
        try dsimp only [Nat.beq, gI_sI, gI_sL, gI_sA, gI_sM, gL_sI, gL_sL, gL_sA, gL_sM, aI_sI, aI_sL, aI_sA, aI_sM, aL_sI, aL_sL, aL_sA, aL_sM] at hx4
        try dsimp only [Nat.beq, gI_sI, gI_sL, gI_sA, gI_sM, gL_sI, gL_sL, gL_sA, gL_sM, aI_sI, aI_sL, aI_sA, aI_sM, aL_sI, aL_sL, aL_sA, aL_sM] at ht4
        try dsimp only [Nat.beq, gI_sI, gI_sL, gI_sA, gI_sM, gL_sI, gL_sL, gL_sA, gL_sM, aI_sI, aI_sL, aI_sA, aI_sM, aL_sI, aL_sL, aL_sA, aL_sM] at hc4
        have hh4 := hk4.1 62 rfl
        have hg4 := hk4.1 49 rfl
        try dsimp only [Nat.beq, gI_sI, gI_sL, gI_sA, gI_sM, gL_sI, gL_sL, gL_sA, gL_sM, aI_sI, aI_sL, aI_sA, aI_sM, aL_sI, aL_sL, aL_sA, aL_sM] at hh4
        try dsimp only [Nat.beq, gI_sI, gI_sL, gI_sA, gI_sM, gL_sI, gL_sL, gL_sA, gL_sM, aI_sI, aI_sL, aI_sA, aI_sM, aL_sI, aL_sL, aL_sA, aL_sM] at hg4
        have hz4 := congrFun ht4 (gI τ4 14).toNatClampNeg
        try simp only [hR4.e2, hR4.e14, hR4.e15, hR4.e17, hR4.e18, hR4.e36, hR4.e42, hR4.e49, hR4.e62, hR4.a3, hR4.a6, hR4.a51, hR4.a19, hR4.a63, hR4.a64, hR4.hp, hR.e18]
        refine ⟨fun h7 => ⟨(by exact h7), ?_⟩, fun h7 => absurd h7 (by decide)⟩
        clear h7
        refine hB _ _ _ _ _ _ _ _ (fun m8 hm8 => ?_)
        dsimp only [jgo, jwp, jst, jct, rfd, Bgives, Nat.beq, lv_args, rlk, rs1, rs2, rdl, rky, rcd, rno, rsw, Value.category, List.filter, List.take, List.drop, List.reverse, List.reverseAux, List.cons_append, List.nil_append, Option.toList, Int.toNat, Int.reduceToNat, if_pos, if_neg, reduceIte, ↓reduceIte, Nat.reduceAdd, Nat.reduceEqDiff, Nat.reduceBEq, beq_self_eq_true, Bool.not_true, Bool.not_false, Bool.and_true, Bool.and_false, Bool.true_and, Bool.false_and, gI_sI, gI_sL, gI_sA, gI_sM, gL_sI, gL_sL, gL_sA, gL_sM, aI_sI, aI_sL, aI_sA, aI_sM, aL_sI, aL_sL, aL_sA, aL_sM, Bgives_0, Bgives_28, Bgives_30, Bgives_34, Bgives_43, Bgives_47, Bgives_48, Bgives_55, Bgives_62, Bgives_64, Bgives_69, Bgives_74, Bgives_76, Bgives_81, Bgives_85, Bgives_86, Bgives_103, Bgives_110, Bgives_112, Bgives_122, Bgives_124, oi_0, oi_1, oi_17, oi_20, oi_45, oi_48, oi_49, oi_59, oi_m2, Pu_emit, Pj_expression, Pj_finished, Pj_isSign, Pj_isWord, Pj_take, Pj_want]; try dsimp only
        try simp only [hR4.e2, hR4.e14, hR4.e15, hR4.e17, hR4.e18, hR4.e36, hR4.e42, hR4.e49, hR4.e62, hR4.a3, hR4.a6, hR4.a51, hR4.a19, hR4.a63, hR4.a64, hR4.hp, hR.e18]
        refine ⟨fun h9 => absurd h9 (by decide), fun h9 => ⟨(by exact h9), ?_⟩⟩
        clear h9
        refine hB _ _ _ _ _ _ _ _ (fun m10 hm10 => ?_)
        dsimp only [jgo, jwp, jst, jct, rfd, Bgives, Nat.beq, lv_args, rlk, rs1, rs2, rdl, rky, rcd, rno, rsw, Value.category, List.filter, List.take, List.drop, List.reverse, List.reverseAux, List.cons_append, List.nil_append, Option.toList, Int.toNat, Int.reduceToNat, if_pos, if_neg, reduceIte, ↓reduceIte, Nat.reduceAdd, Nat.reduceEqDiff, Nat.reduceBEq, beq_self_eq_true, Bool.not_true, Bool.not_false, Bool.and_true, Bool.and_false, Bool.true_and, Bool.false_and, gI_sI, gI_sL, gI_sA, gI_sM, gL_sI, gL_sL, gL_sA, gL_sM, aI_sI, aI_sL, aI_sA, aI_sM, aL_sI, aL_sL, aL_sA, aL_sM, Bgives_0, Bgives_28, Bgives_30, Bgives_34, Bgives_43, Bgives_47, Bgives_48, Bgives_55, Bgives_62, Bgives_64, Bgives_69, Bgives_74, Bgives_76, Bgives_81, Bgives_85, Bgives_86, Bgives_103, Bgives_110, Bgives_112, Bgives_122, Bgives_124, oi_0, oi_1, oi_17, oi_20, oi_45, oi_48, oi_49, oi_59, oi_m2, Pu_emit, Pj_expression, Pj_finished, Pj_isSign, Pj_isWord, Pj_take, Pj_want]; try dsimp only
        try simp only [hR4.e2, hR4.e14, hR4.e15, hR4.e17, hR4.e18, hR4.e36, hR4.e42, hR4.e49, hR4.e62, hR4.a3, hR4.a6, hR4.a51, hR4.a19, hR4.a63, hR4.a64, hR4.hp, hR.e18]
        refine ⟨⟨(Rj.w (md := 1) (by (repeat (first | exact hR4 | refine Rj.i ?_ rfl | refine Rj.a ?_ rfl | refine Rj.m ?_ | refine Rj.s ?_ (by decide) | refine Rj.o1 ?_ (by first | lia | (dsimp only [Nat.beq, gI_sI, gI_sL, gI_sA, gI_sM, gL_sI, gL_sL, gL_sA, gL_sM, aI_sI, aI_sL, aI_sA, aI_sM, aL_sI, aL_sL, aL_sA, aL_sM]; lia)) | refine Rj.o2 ?_ | refine Rj.f1 ?_ (by first | lia | (dsimp only [Nat.beq, gI_sI, gI_sL, gI_sA, gI_sM, gL_sI, gL_sL, gL_sA, gL_sM, aI_sI, aI_sL, aI_sA, aI_sM, aL_sI, aL_sL, aL_sA, aL_sM]; lia)) | refine Rj.f2 ?_ | refine Rj.fs ?_)))), (by first | exact True.intro | rfl)⟩, fun w11 τ11 w11' τ11' hq11 => ?_⟩
        obtain ⟨b11, rfl, rfl, rfl, rfl, hb11⟩ := hq11
        rcases hb11 with rfl | ⟨rfl, hf11⟩
        · dsimp only [Option.toList, List.cons_append, List.nil_append, Nat.beq, gI_sI, gI_sL, gI_sA, gI_sM, gL_sI, gL_sL, gL_sA, gL_sM, aI_sI, aI_sL, aI_sA, aI_sM, aL_sI, aL_sL, aL_sA, aL_sM]
          try simp only [hR4.e2, hR4.e14, hR4.e15, hR4.e17, hR4.e18, hR4.e36, hR4.e42, hR4.e49, hR4.e62, hR4.a3, hR4.a6, hR4.a51, hR4.a19, hR4.a63, hR4.a64, hR4.hp, hR.e18]
          refine ⟨fun h12 => absurd h12 (by decide), fun h12 => ⟨(by exact h12), ?_⟩⟩
          clear h12
          refine hB _ _ _ _ _ _ _ _ (fun m13 hm13 => ?_)
          dsimp only [jgo, jwp, jst, jct, rfd, Bgives, Nat.beq, lv_args, rlk, rs1, rs2, rdl, rky, rcd, rno, rsw, Value.category, List.filter, List.take, List.drop, List.reverse, List.reverseAux, List.cons_append, List.nil_append, Option.toList, Int.toNat, Int.reduceToNat, if_pos, if_neg, reduceIte, ↓reduceIte, Nat.reduceAdd, Nat.reduceEqDiff, Nat.reduceBEq, beq_self_eq_true, Bool.not_true, Bool.not_false, Bool.and_true, Bool.and_false, Bool.true_and, Bool.false_and, gI_sI, gI_sL, gI_sA, gI_sM, gL_sI, gL_sL, gL_sA, gL_sM, aI_sI, aI_sL, aI_sA, aI_sM, aL_sI, aL_sL, aL_sA, aL_sM, Bgives_0, Bgives_28, Bgives_30, Bgives_34, Bgives_43, Bgives_47, Bgives_48, Bgives_55, Bgives_62, Bgives_64, Bgives_69, Bgives_74, Bgives_76, Bgives_81, Bgives_85, Bgives_86, Bgives_103, Bgives_110, Bgives_112, Bgives_122, Bgives_124, oi_0, oi_1, oi_17, oi_20, oi_45, oi_48, oi_49, oi_59, oi_m2, Pu_emit, Pj_expression, Pj_finished, Pj_isSign, Pj_isWord, Pj_take, Pj_want]; try dsimp only
          try simp only [hR4.e2, hR4.e14, hR4.e15, hR4.e17, hR4.e18, hR4.e36, hR4.e42, hR4.e49, hR4.e62, hR4.a3, hR4.a6, hR4.a51, hR4.a19, hR4.a63, hR4.a64, hR4.hp, hR.e18]
          refine hB _ _ _ _ _ _ _ _ (fun m14 hm14 => ?_)
          dsimp only [jgo, jwp, jst, jct, rfd, Bgives, Nat.beq, lv_args, rlk, rs1, rs2, rdl, rky, rcd, rno, rsw, Value.category, List.filter, List.take, List.drop, List.reverse, List.reverseAux, List.cons_append, List.nil_append, Option.toList, Int.toNat, Int.reduceToNat, if_pos, if_neg, reduceIte, ↓reduceIte, Nat.reduceAdd, Nat.reduceEqDiff, Nat.reduceBEq, beq_self_eq_true, Bool.not_true, Bool.not_false, Bool.and_true, Bool.and_false, Bool.true_and, Bool.false_and, gI_sI, gI_sL, gI_sA, gI_sM, gL_sI, gL_sL, gL_sA, gL_sM, aI_sI, aI_sL, aI_sA, aI_sM, aL_sI, aL_sL, aL_sA, aL_sM, Bgives_0, Bgives_28, Bgives_30, Bgives_34, Bgives_43, Bgives_47, Bgives_48, Bgives_55, Bgives_62, Bgives_64, Bgives_69, Bgives_74, Bgives_76, Bgives_81, Bgives_85, Bgives_86, Bgives_103, Bgives_110, Bgives_112, Bgives_122, Bgives_124, oi_0, oi_1, oi_17, oi_20, oi_45, oi_48, oi_49, oi_59, oi_m2, Pu_emit, Pj_expression, Pj_finished, Pj_isSign, Pj_isWord, Pj_take, Pj_want]; try dsimp only
          try simp only [hR4.e2, hR4.e14, hR4.e15, hR4.e17, hR4.e18, hR4.e36, hR4.e42, hR4.e49, hR4.e62, hR4.a3, hR4.a6, hR4.a51, hR4.a19, hR4.a63, hR4.a64, hR4.hp, hR.e18]
          refine ⟨fun h15 => absurd h15 (by decide), fun h15 => ⟨(by exact h15), ?_⟩⟩
          clear h15
          refine hB _ _ _ _ _ _ _ _ (fun m16 hm16 => ?_)
          dsimp only [jgo, jwp, jst, jct, rfd, Bgives, Nat.beq, lv_args, rlk, rs1, rs2, rdl, rky, rcd, rno, rsw, Value.category, List.filter, List.take, List.drop, List.reverse, List.reverseAux, List.cons_append, List.nil_append, Option.toList, Int.toNat, Int.reduceToNat, if_pos, if_neg, reduceIte, ↓reduceIte, Nat.reduceAdd, Nat.reduceEqDiff, Nat.reduceBEq, beq_self_eq_true, Bool.not_true, Bool.not_false, Bool.and_true, Bool.and_false, Bool.true_and, Bool.false_and, gI_sI, gI_sL, gI_sA, gI_sM, gL_sI, gL_sL, gL_sA, gL_sM, aI_sI, aI_sL, aI_sA, aI_sM, aL_sI, aL_sL, aL_sA, aL_sM, Bgives_0, Bgives_28, Bgives_30, Bgives_34, Bgives_43, Bgives_47, Bgives_48, Bgives_55, Bgives_62, Bgives_64, Bgives_69, Bgives_74, Bgives_76, Bgives_81, Bgives_85, Bgives_86, Bgives_103, Bgives_110, Bgives_112, Bgives_122, Bgives_124, oi_0, oi_1, oi_17, oi_20, oi_45, oi_48, oi_49, oi_59, oi_m2, Pu_emit, Pj_expression, Pj_finished, Pj_isSign, Pj_isWord, Pj_take, Pj_want]; try dsimp only
          try simp only [hR4.e2, hR4.e14, hR4.e15, hR4.e17, hR4.e18, hR4.e36, hR4.e42, hR4.e49, hR4.e62, hR4.a3, hR4.a6, hR4.a51, hR4.a19, hR4.a63, hR4.a64, hR4.hp, hR.e18]
          refine ⟨(by (repeat (first | exact hR4 | refine Rj.i ?_ rfl | refine Rj.a ?_ rfl | refine Rj.m ?_ | refine Rj.s ?_ (by decide) | refine Rj.o1 ?_ (by first | lia | (dsimp only [Nat.beq, gI_sI, gI_sL, gI_sA, gI_sM, gL_sI, gL_sL, gL_sA, gL_sM, aI_sI, aI_sL, aI_sA, aI_sM, aL_sI, aL_sL, aL_sA, aL_sM]; lia)) | refine Rj.o2 ?_ | refine Rj.f1 ?_ (by first | lia | (dsimp only [Nat.beq, gI_sI, gI_sL, gI_sA, gI_sM, gL_sI, gL_sL, gL_sA, gL_sM, aI_sI, aI_sL, aI_sA, aI_sM, aL_sI, aL_sL, aL_sA, aL_sM]; lia)) | refine Rj.f2 ?_ | refine Rj.fs ?_))), fun w17 τ17 w17' τ17' hq17 => ?_⟩
          obtain ⟨b17, rfl, rfl, hb17⟩ := hq17
          rcases hb17 with rfl | ⟨rfl, hR17, hk17⟩
          · dsimp only [Option.toList, List.cons_append, List.nil_append, Nat.beq, gI_sI, gI_sL, gI_sA, gI_sM, gL_sI, gL_sL, gL_sA, gL_sM, aI_sI, aI_sL, aI_sA, aI_sM, aL_sI, aL_sL, aL_sA, aL_sM]
            try simp only [hR4.e2, hR4.e14, hR4.e15, hR4.e17, hR4.e18, hR4.e36, hR4.e42, hR4.e49, hR4.e62, hR4.a3, hR4.a6, hR4.a51, hR4.a19, hR4.a63, hR4.a64, hR4.hp, hR.e18]
            refine ⟨fun h18 => absurd h18 (by decide), fun h18 => ⟨(by exact h18), ?_⟩⟩
            clear h18
            refine hB _ _ _ _ _ _ _ _ (fun m19 hm19 => ?_)
            dsimp only [jgo, jwp, jst, jct, rfd, Bgives, Nat.beq, lv_args, rlk, rs1, rs2, rdl, rky, rcd, rno, rsw, Value.category, List.filter, List.take, List.drop, List.reverse, List.reverseAux, List.cons_append, List.nil_append, Option.toList, Int.toNat, Int.reduceToNat, if_pos, if_neg, reduceIte, ↓reduceIte, Nat.reduceAdd, Nat.reduceEqDiff, Nat.reduceBEq, beq_self_eq_true, Bool.not_true, Bool.not_false, Bool.and_true, Bool.and_false, Bool.true_and, Bool.false_and, gI_sI, gI_sL, gI_sA, gI_sM, gL_sI, gL_sL, gL_sA, gL_sM, aI_sI, aI_sL, aI_sA, aI_sM, aL_sI, aL_sL, aL_sA, aL_sM, Bgives_0, Bgives_28, Bgives_30, Bgives_34, Bgives_43, Bgives_47, Bgives_48, Bgives_55, Bgives_62, Bgives_64, Bgives_69, Bgives_74, Bgives_76, Bgives_81, Bgives_85, Bgives_86, Bgives_103, Bgives_110, Bgives_112, Bgives_122, Bgives_124, oi_0, oi_1, oi_17, oi_20, oi_45, oi_48, oi_49, oi_59, oi_m2, Pu_emit, Pj_expression, Pj_finished, Pj_isSign, Pj_isWord, Pj_take, Pj_want]; try dsimp only
            try simp only [hR4.e2, hR4.e14, hR4.e15, hR4.e17, hR4.e18, hR4.e36, hR4.e42, hR4.e49, hR4.e62, hR4.a3, hR4.a6, hR4.a51, hR4.a19, hR4.a63, hR4.a64, hR4.hp, hR.e18]
            unfold Qj_gives
            try dsimp only
            exact ⟨_, rfl, rfl, Or.inl rfl⟩
          · dsimp only [Option.toList, List.cons_append, List.nil_append, Nat.beq, gI_sI, gI_sL, gI_sA, gI_sM, gL_sI, gL_sL, gL_sA, gL_sM, aI_sI, aI_sL, aI_sA, aI_sM, aL_sI, aL_sL, aL_sA, aL_sM]
            have hh17 := hk17.1 62 rfl
            have hg17 := hk17.1 49 rfl
            try dsimp only [Nat.beq, gI_sI, gI_sL, gI_sA, gI_sM, gL_sI, gL_sL, gL_sA, gL_sM, aI_sI, aI_sL, aI_sA, aI_sM, aL_sI, aL_sL, aL_sA, aL_sM] at hh17
            try dsimp only [Nat.beq, gI_sI, gI_sL, gI_sA, gI_sM, gL_sI, gL_sL, gL_sA, gL_sM, aI_sI, aI_sL, aI_sA, aI_sM, aL_sI, aL_sL, aL_sA, aL_sM] at hg17
            try simp only [hR17.e2, hR17.e14, hR17.e15, hR17.e17, hR17.e18, hR17.e36, hR17.e42, hR17.e49, hR17.e62, hR17.a3, hR17.a6, hR17.a51, hR17.a19, hR17.a63, hR17.a64, hR17.hp, hR.e18]
            refine ⟨fun h20 => ⟨(by exact h20), ?_⟩, fun h20 => absurd h20 (by decide)⟩
            clear h20
            refine hB _ _ _ _ _ _ _ _ (fun m21 hm21 => ?_)
            dsimp only [jgo, jwp, jst, jct, rfd, Bgives, Nat.beq, lv_args, rlk, rs1, rs2, rdl, rky, rcd, rno, rsw, Value.category, List.filter, List.take, List.drop, List.reverse, List.reverseAux, List.cons_append, List.nil_append, Option.toList, Int.toNat, Int.reduceToNat, if_pos, if_neg, reduceIte, ↓reduceIte, Nat.reduceAdd, Nat.reduceEqDiff, Nat.reduceBEq, beq_self_eq_true, Bool.not_true, Bool.not_false, Bool.and_true, Bool.and_false, Bool.true_and, Bool.false_and, gI_sI, gI_sL, gI_sA, gI_sM, gL_sI, gL_sL, gL_sA, gL_sM, aI_sI, aI_sL, aI_sA, aI_sM, aL_sI, aL_sL, aL_sA, aL_sM, Bgives_0, Bgives_28, Bgives_30, Bgives_34, Bgives_43, Bgives_47, Bgives_48, Bgives_55, Bgives_62, Bgives_64, Bgives_69, Bgives_74, Bgives_76, Bgives_81, Bgives_85, Bgives_86, Bgives_103, Bgives_110, Bgives_112, Bgives_122, Bgives_124, oi_0, oi_1, oi_17, oi_20, oi_45, oi_48, oi_49, oi_59, oi_m2, Pu_emit, Pj_expression, Pj_finished, Pj_isSign, Pj_isWord, Pj_take, Pj_want]; try dsimp only
            try simp only [hR17.e2, hR17.e14, hR17.e15, hR17.e17, hR17.e18, hR17.e36, hR17.e42, hR17.e49, hR17.e62, hR17.a3, hR17.a6, hR17.a51, hR17.a19, hR17.a63, hR17.a64, hR17.hp, hR.e18]
            refine ⟨fun h22 => ⟨(by exact h22), ?_⟩, fun h22 => absurd h22 (by decide)⟩
            clear h22
            refine hB _ _ _ _ _ _ _ _ (fun m23 hm23 => ?_)
            dsimp only [jgo, jwp, jst, jct, rfd, Bgives, Nat.beq, lv_args, rlk, rs1, rs2, rdl, rky, rcd, rno, rsw, Value.category, List.filter, List.take, List.drop, List.reverse, List.reverseAux, List.cons_append, List.nil_append, Option.toList, Int.toNat, Int.reduceToNat, if_pos, if_neg, reduceIte, ↓reduceIte, Nat.reduceAdd, Nat.reduceEqDiff, Nat.reduceBEq, beq_self_eq_true, Bool.not_true, Bool.not_false, Bool.and_true, Bool.and_false, Bool.true_and, Bool.false_and, gI_sI, gI_sL, gI_sA, gI_sM, gL_sI, gL_sL, gL_sA, gL_sM, aI_sI, aI_sL, aI_sA, aI_sM, aL_sI, aL_sL, aL_sA, aL_sM, Bgives_0, Bgives_28, Bgives_30, Bgives_34, Bgives_43, Bgives_47, Bgives_48, Bgives_55, Bgives_62, Bgives_64, Bgives_69, Bgives_74, Bgives_76, Bgives_81, Bgives_85, Bgives_86, Bgives_103, Bgives_110, Bgives_112, Bgives_122, Bgives_124, oi_0, oi_1, oi_17, oi_20, oi_45, oi_48, oi_49, oi_59, oi_m2, Pu_emit, Pj_expression, Pj_finished, Pj_isSign, Pj_isWord, Pj_take, Pj_want]; try dsimp only
            try simp only [hR17.e2, hR17.e14, hR17.e15, hR17.e17, hR17.e18, hR17.e36, hR17.e42, hR17.e49, hR17.e62, hR17.a3, hR17.a6, hR17.a51, hR17.a19, hR17.a63, hR17.a64, hR17.hp, hR.e18]
            refine hB _ _ _ _ _ _ _ _ (fun m24 hm24 => ?_)
            dsimp only [jgo, jwp, jst, jct, rfd, Bgives, Nat.beq, lv_args, rlk, rs1, rs2, rdl, rky, rcd, rno, rsw, Value.category, List.filter, List.take, List.drop, List.reverse, List.reverseAux, List.cons_append, List.nil_append, Option.toList, Int.toNat, Int.reduceToNat, if_pos, if_neg, reduceIte, ↓reduceIte, Nat.reduceAdd, Nat.reduceEqDiff, Nat.reduceBEq, beq_self_eq_true, Bool.not_true, Bool.not_false, Bool.and_true, Bool.and_false, Bool.true_and, Bool.false_and, gI_sI, gI_sL, gI_sA, gI_sM, gL_sI, gL_sL, gL_sA, gL_sM, aI_sI, aI_sL, aI_sA, aI_sM, aL_sI, aL_sL, aL_sA, aL_sM, Bgives_0, Bgives_28, Bgives_30, Bgives_34, Bgives_43, Bgives_47, Bgives_48, Bgives_55, Bgives_62, Bgives_64, Bgives_69, Bgives_74, Bgives_76, Bgives_81, Bgives_85, Bgives_86, Bgives_103, Bgives_110, Bgives_112, Bgives_122, Bgives_124, oi_0, oi_1, oi_17, oi_20, oi_45, oi_48, oi_49, oi_59, oi_m2, Pu_emit, Pj_expression, Pj_finished, Pj_isSign, Pj_isWord, Pj_take, Pj_want]; try dsimp only
            try simp only [hR17.e2, hR17.e14, hR17.e15, hR17.e17, hR17.e18, hR17.e36, hR17.e42, hR17.e49, hR17.e62, hR17.a3, hR17.a6, hR17.a51, hR17.a19, hR17.a63, hR17.a64, hR17.hp, hR.e18]
            refine ⟨fun h25 => absurd h25 (by decide), fun h25 => ⟨(by exact h25), ?_⟩⟩
            clear h25
            refine hB _ _ _ _ _ _ _ _ (fun m26 hm26 => ?_)
            dsimp only [jgo, jwp, jst, jct, rfd, Bgives, Nat.beq, lv_args, rlk, rs1, rs2, rdl, rky, rcd, rno, rsw, Value.category, List.filter, List.take, List.drop, List.reverse, List.reverseAux, List.cons_append, List.nil_append, Option.toList, Int.toNat, Int.reduceToNat, if_pos, if_neg, reduceIte, ↓reduceIte, Nat.reduceAdd, Nat.reduceEqDiff, Nat.reduceBEq, beq_self_eq_true, Bool.not_true, Bool.not_false, Bool.and_true, Bool.and_false, Bool.true_and, Bool.false_and, gI_sI, gI_sL, gI_sA, gI_sM, gL_sI, gL_sL, gL_sA, gL_sM, aI_sI, aI_sL, aI_sA, aI_sM, aL_sI, aL_sL, aL_sA, aL_sM, Bgives_0, Bgives_28, Bgives_30, Bgives_34, Bgives_43, Bgives_47, Bgives_48, Bgives_55, Bgives_62, Bgives_64, Bgives_69, Bgives_74, Bgives_76, Bgives_81, Bgives_85, Bgives_86, Bgives_103, Bgives_110, Bgives_112, Bgives_122, Bgives_124, oi_0, oi_1, oi_17, oi_20, oi_45, oi_48, oi_49, oi_59, oi_m2, Pu_emit, Pj_expression, Pj_finished, Pj_isSign, Pj_isWord, Pj_take, Pj_want]; try dsimp only
            try simp only [hR17.e2, hR17.e14, hR17.e15, hR17.e17, hR17.e18, hR17.e36, hR17.e42, hR17.e49, hR17.e62, hR17.a3, hR17.a6, hR17.a51, hR17.a19, hR17.a63, hR17.a64, hR17.hp, hR.e18]
            refine hB _ _ _ _ _ _ _ _ (fun m27 hm27 => ?_)
            dsimp only [jgo, jwp, jst, jct, rfd, Bgives, Nat.beq, lv_args, rlk, rs1, rs2, rdl, rky, rcd, rno, rsw, Value.category, List.filter, List.take, List.drop, List.reverse, List.reverseAux, List.cons_append, List.nil_append, Option.toList, Int.toNat, Int.reduceToNat, if_pos, if_neg, reduceIte, ↓reduceIte, Nat.reduceAdd, Nat.reduceEqDiff, Nat.reduceBEq, beq_self_eq_true, Bool.not_true, Bool.not_false, Bool.and_true, Bool.and_false, Bool.true_and, Bool.false_and, gI_sI, gI_sL, gI_sA, gI_sM, gL_sI, gL_sL, gL_sA, gL_sM, aI_sI, aI_sL, aI_sA, aI_sM, aL_sI, aL_sL, aL_sA, aL_sM, Bgives_0, Bgives_28, Bgives_30, Bgives_34, Bgives_43, Bgives_47, Bgives_48, Bgives_55, Bgives_62, Bgives_64, Bgives_69, Bgives_74, Bgives_76, Bgives_81, Bgives_85, Bgives_86, Bgives_103, Bgives_110, Bgives_112, Bgives_122, Bgives_124, oi_0, oi_1, oi_17, oi_20, oi_45, oi_48, oi_49, oi_59, oi_m2, Pu_emit, Pj_expression, Pj_finished, Pj_isSign, Pj_isWord, Pj_take, Pj_want]; try dsimp only
            try simp only [hR17.e2, hR17.e14, hR17.e15, hR17.e17, hR17.e18, hR17.e36, hR17.e42, hR17.e49, hR17.e62, hR17.a3, hR17.a6, hR17.a51, hR17.a19, hR17.a63, hR17.a64, hR17.hp, hR.e18]
            refine ⟨⟨trivial, trivial⟩, fun w28 τ28 w28' τ28' hq28 => ?_⟩
            obtain ⟨⟨rfl, hE28⟩, rfl, hF28⟩ := hq28
            have hR28 : Rj 1 τ28 τ28' := Rj.em (by (repeat (first | exact hR17 | refine Rj.i ?_ rfl | refine Rj.a ?_ rfl | refine Rj.m ?_ | refine Rj.s ?_ (by decide) | refine Rj.o1 ?_ (by first | lia | (dsimp only [Nat.beq, gI_sI, gI_sL, gI_sA, gI_sM, gL_sI, gL_sL, gL_sA, gL_sM, aI_sI, aI_sL, aI_sA, aI_sM, aL_sI, aL_sL, aL_sA, aL_sM]; lia)) | refine Rj.o2 ?_ | refine Rj.f1 ?_ (by first | lia | (dsimp only [Nat.beq, gI_sI, gI_sL, gI_sA, gI_sM, gL_sI, gL_sL, gL_sA, gL_sM, aI_sI, aI_sL, aI_sA, aI_sM, aL_sI, aL_sL, aL_sA, aL_sM]; lia)) | refine Rj.f2 ?_ | refine Rj.fs ?_))) hE28 hF28 (by first | exact fun _ => rfl | exact fun q => absurd q (by decide))
            have hp28 := hE28.1 14 (by decide)
            have ho28 := hE28.1 29 (by decide)
            have hh28 := hE28.1 62 (by decide)
            have hg28 := hE28.1 49 (by decide)
            have hw28 := hE28.1 34 (by decide)
            have hv28 := hF28.1 34 (by decide)
            have ht28 := hE28.2.2.2.2.1 3 (by decide)
            try dsimp only [Nat.beq, gI_sI, gI_sL, gI_sA, gI_sM, gL_sI, gL_sL, gL_sA, gL_sM, aI_sI, aI_sL, aI_sA, aI_sM, aL_sI, aL_sL, aL_sA, aL_sM] at hp28
            try dsimp only [Nat.beq, gI_sI, gI_sL, gI_sA, gI_sM, gL_sI, gL_sL, gL_sA, gL_sM, aI_sI, aI_sL, aI_sA, aI_sM, aL_sI, aL_sL, aL_sA, aL_sM] at ho28
            try dsimp only [Nat.beq, gI_sI, gI_sL, gI_sA, gI_sM, gL_sI, gL_sL, gL_sA, gL_sM, aI_sI, aI_sL, aI_sA, aI_sM, aL_sI, aL_sL, aL_sA, aL_sM] at hh28
            try dsimp only [Nat.beq, gI_sI, gI_sL, gI_sA, gI_sM, gL_sI, gL_sL, gL_sA, gL_sM, aI_sI, aI_sL, aI_sA, aI_sM, aL_sI, aL_sL, aL_sA, aL_sM] at hg28
            try dsimp only [Nat.beq, gI_sI, gI_sL, gI_sA, gI_sM, gL_sI, gL_sL, gL_sA, gL_sM, aI_sI, aI_sL, aI_sA, aI_sM, aL_sI, aL_sL, aL_sA, aL_sM] at hw28
            try dsimp only [Nat.beq, gI_sI, gI_sL, gI_sA, gI_sM, gL_sI, gL_sL, gL_sA, gL_sM, aI_sI, aI_sL, aI_sA, aI_sM, aL_sI, aL_sL, aL_sA, aL_sM] at hv28
            try dsimp only [Nat.beq, gI_sI, gI_sL, gI_sA, gI_sM, gL_sI, gL_sL, gL_sA, gL_sM, aI_sI, aI_sL, aI_sA, aI_sM, aL_sI, aL_sL, aL_sA, aL_sM] at ht28
            have hz28 := congrFun ht28 (gI τ28 14).toNatClampNeg
            dsimp only [Option.toList, List.cons_append, List.nil_append, Nat.beq, gI_sI, gI_sL, gI_sA, gI_sM, gL_sI, gL_sL, gL_sA, gL_sM, aI_sI, aI_sL, aI_sA, aI_sM, aL_sI, aL_sL, aL_sA, aL_sM]
            try simp only [hR28.e2, hR28.e14, hR28.e15, hR28.e17, hR28.e18, hR28.e36, hR28.e42, hR28.e49, hR28.e62, hR28.a3, hR28.a6, hR28.a51, hR28.a19, hR28.a63, hR28.a64, hR28.hp, hR.e18, hR17.e18]
            refine ⟨fun h29 => absurd h29 (by decide), fun h29 => ⟨(by exact h29), ?_⟩⟩
            clear h29
            refine hB _ _ _ _ _ _ _ _ (fun m30 hm30 => ?_)
            dsimp only [jgo, jwp, jst, jct, rfd, Bgives, Nat.beq, lv_args, rlk, rs1, rs2, rdl, rky, rcd, rno, rsw, Value.category, List.filter, List.take, List.drop, List.reverse, List.reverseAux, List.cons_append, List.nil_append, Option.toList, Int.toNat, Int.reduceToNat, if_pos, if_neg, reduceIte, ↓reduceIte, Nat.reduceAdd, Nat.reduceEqDiff, Nat.reduceBEq, beq_self_eq_true, Bool.not_true, Bool.not_false, Bool.and_true, Bool.and_false, Bool.true_and, Bool.false_and, gI_sI, gI_sL, gI_sA, gI_sM, gL_sI, gL_sL, gL_sA, gL_sM, aI_sI, aI_sL, aI_sA, aI_sM, aL_sI, aL_sL, aL_sA, aL_sM, Bgives_0, Bgives_28, Bgives_30, Bgives_34, Bgives_43, Bgives_47, Bgives_48, Bgives_55, Bgives_62, Bgives_64, Bgives_69, Bgives_74, Bgives_76, Bgives_81, Bgives_85, Bgives_86, Bgives_103, Bgives_110, Bgives_112, Bgives_122, Bgives_124, oi_0, oi_1, oi_17, oi_20, oi_45, oi_48, oi_49, oi_59, oi_m2, Pu_emit, Pj_expression, Pj_finished, Pj_isSign, Pj_isWord, Pj_take, Pj_want]; try dsimp only
            try simp only [hR28.e2, hR28.e14, hR28.e15, hR28.e17, hR28.e18, hR28.e36, hR28.e42, hR28.e49, hR28.e62, hR28.a3, hR28.a6, hR28.a51, hR28.a19, hR28.a63, hR28.a64, hR28.hp, hR.e18, hR17.e18]
            refine hB _ _ _ _ _ _ _ _ (fun m31 hm31 => ?_)
            dsimp only [jgo, jwp, jst, jct, rfd, Bgives, Nat.beq, lv_args, rlk, rs1, rs2, rdl, rky, rcd, rno, rsw, Value.category, List.filter, List.take, List.drop, List.reverse, List.reverseAux, List.cons_append, List.nil_append, Option.toList, Int.toNat, Int.reduceToNat, if_pos, if_neg, reduceIte, ↓reduceIte, Nat.reduceAdd, Nat.reduceEqDiff, Nat.reduceBEq, beq_self_eq_true, Bool.not_true, Bool.not_false, Bool.and_true, Bool.and_false, Bool.true_and, Bool.false_and, gI_sI, gI_sL, gI_sA, gI_sM, gL_sI, gL_sL, gL_sA, gL_sM, aI_sI, aI_sL, aI_sA, aI_sM, aL_sI, aL_sL, aL_sA, aL_sM, Bgives_0, Bgives_28, Bgives_30, Bgives_34, Bgives_43, Bgives_47, Bgives_48, Bgives_55, Bgives_62, Bgives_64, Bgives_69, Bgives_74, Bgives_76, Bgives_81, Bgives_85, Bgives_86, Bgives_103, Bgives_110, Bgives_112, Bgives_122, Bgives_124, oi_0, oi_1, oi_17, oi_20, oi_45, oi_48, oi_49, oi_59, oi_m2, Pu_emit, Pj_expression, Pj_finished, Pj_isSign, Pj_isWord, Pj_take, Pj_want]; try dsimp only
            try simp only [hR28.e2, hR28.e14, hR28.e15, hR28.e17, hR28.e18, hR28.e36, hR28.e42, hR28.e49, hR28.e62, hR28.a3, hR28.a6, hR28.a51, hR28.a19, hR28.a63, hR28.a64, hR28.hp, hR.e18, hR17.e18]
            intro p32 q32
            try simp only [hR28.e2, hR28.e14, hR28.e15, hR28.e17, hR28.e18, hR28.e36, hR28.e42, hR28.e49, hR28.e62, hR28.a3, hR28.a6, hR28.a51, hR28.a19, hR28.a63, hR28.a64, hR28.hp, hR.e18, hR17.e18]
            refine ⟨⟨(Rj.w (md := 1) (by (repeat (first | exact hR28 | refine Rj.i ?_ rfl | refine Rj.a ?_ rfl | refine Rj.m ?_ | refine Rj.s ?_ (by decide) | refine Rj.o1 ?_ (by first | lia | (dsimp only [Nat.beq, gI_sI, gI_sL, gI_sA, gI_sM, gL_sI, gL_sL, gL_sA, gL_sM, aI_sI, aI_sL, aI_sA, aI_sM, aL_sI, aL_sL, aL_sA, aL_sM]; lia)) | refine Rj.o2 ?_ | refine Rj.f1 ?_ (by first | lia | (dsimp only [Nat.beq, gI_sI, gI_sL, gI_sA, gI_sM, gL_sI, gL_sL, gL_sA, gL_sM, aI_sI, aI_sL, aI_sA, aI_sM, aL_sI, aL_sL, aL_sA, aL_sM]; lia)) | refine Rj.f2 ?_ | refine Rj.fs ?_)))), (by first | exact True.intro | rfl)⟩, fun w33 τ33 w33' τ33' hq33 => ?_⟩
            obtain ⟨b33, rfl, rfl, hb33⟩ := hq33
            rcases hb33 with rfl | ⟨rfl, hr33, hk33, hx33⟩
            · dsimp only [Option.toList, List.cons_append, List.nil_append, Nat.beq, gI_sI, gI_sL, gI_sA, gI_sM, gL_sI, gL_sL, gL_sA, gL_sM, aI_sI, aI_sL, aI_sA, aI_sM, aL_sI, aL_sL, aL_sA, aL_sM]
              try simp only [hR28.e2, hR28.e14, hR28.e15, hR28.e17, hR28.e18, hR28.e36, hR28.e42, hR28.e49, hR28.e62, hR28.a3, hR28.a6, hR28.a51, hR28.a19, hR28.a63, hR28.a64, hR28.hp, hR.e18, hR17.e18]
              refine ⟨fun h34 => absurd h34 (by decide), fun h34 => ⟨(by exact h34), ?_⟩⟩
              clear h34
              refine hB _ _ _ _ _ _ _ _ (fun m35 hm35 => ?_)
              dsimp only [jgo, jwp, jst, jct, rfd, Bgives, Nat.beq, lv_args, rlk, rs1, rs2, rdl, rky, rcd, rno, rsw, Value.category, List.filter, List.take, List.drop, List.reverse, List.reverseAux, List.cons_append, List.nil_append, Option.toList, Int.toNat, Int.reduceToNat, if_pos, if_neg, reduceIte, ↓reduceIte, Nat.reduceAdd, Nat.reduceEqDiff, Nat.reduceBEq, beq_self_eq_true, Bool.not_true, Bool.not_false, Bool.and_true, Bool.and_false, Bool.true_and, Bool.false_and, gI_sI, gI_sL, gI_sA, gI_sM, gL_sI, gL_sL, gL_sA, gL_sM, aI_sI, aI_sL, aI_sA, aI_sM, aL_sI, aL_sL, aL_sA, aL_sM, Bgives_0, Bgives_28, Bgives_30, Bgives_34, Bgives_43, Bgives_47, Bgives_48, Bgives_55, Bgives_62, Bgives_64, Bgives_69, Bgives_74, Bgives_76, Bgives_81, Bgives_85, Bgives_86, Bgives_103, Bgives_110, Bgives_112, Bgives_122, Bgives_124, oi_0, oi_1, oi_17, oi_20, oi_45, oi_48, oi_49, oi_59, oi_m2, Pu_emit, Pj_expression, Pj_finished, Pj_isSign, Pj_isWord, Pj_take, Pj_want]; try dsimp only
              try simp only [hR28.e2, hR28.e14, hR28.e15, hR28.e17, hR28.e18, hR28.e36, hR28.e42, hR28.e49, hR28.e62, hR28.a3, hR28.a6, hR28.a51, hR28.a19, hR28.a63, hR28.a64, hR28.hp, hR.e18, hR17.e18]
              unfold Qj_gives
              try dsimp only
              exact ⟨_, rfl, rfl, Or.inl rfl⟩
            · dsimp only [Option.toList, List.cons_append, List.nil_append, Nat.beq, gI_sI, gI_sL, gI_sA, gI_sM, gL_sI, gL_sL, gL_sA, gL_sM, aI_sI, aI_sL, aI_sA, aI_sM, aL_sI, aL_sL, aL_sA, aL_sM]
              have hR33 : Rj 1 τ33 τ33' := hr33 _ (by (repeat (first | exact hR28 | refine Rj.i ?_ rfl | refine Rj.a ?_ rfl | refine Rj.m ?_ | refine Rj.s ?_ (by decide) | refine Rj.o1 ?_ (by first | lia | (dsimp only [Nat.beq, gI_sI, gI_sL, gI_sA, gI_sM, gL_sI, gL_sL, gL_sA, gL_sM, aI_sI, aI_sL, aI_sA, aI_sM, aL_sI, aL_sL, aL_sA, aL_sM]; lia)) | refine Rj.o2 ?_ | refine Rj.f1 ?_ (by first | lia | (dsimp only [Nat.beq, gI_sI, gI_sL, gI_sA, gI_sM, gL_sI, gL_sL, gL_sA, gL_sM, aI_sI, aI_sL, aI_sA, aI_sM, aL_sI, aL_sL, aL_sA, aL_sM]; lia)) | refine Rj.f2 ?_ | refine Rj.fs ?_)))
              have ht33 := hk33.2 3 rfl
              have hc33 := hk33.1 2 rfl
              try dsimp only [Nat.beq, gI_sI, gI_sL, gI_sA, gI_sM, gL_sI, gL_sL, gL_sA, gL_sM, aI_sI, aI_sL, aI_sA, aI_sM, aL_sI, aL_sL, aL_sA, aL_sM] at hx33
              try dsimp only [Nat.beq, gI_sI, gI_sL, gI_sA, gI_sM, gL_sI, gL_sL, gL_sA, gL_sM, aI_sI, aI_sL, aI_sA, aI_sM, aL_sI, aL_sL, aL_sA, aL_sM] at ht33
              try dsimp only [Nat.beq, gI_sI, gI_sL, gI_sA, gI_sM, gL_sI, gL_sL, gL_sA, gL_sM, aI_sI, aI_sL, aI_sA, aI_sM, aL_sI, aL_sL, aL_sA, aL_sM] at hc33
              have hh33 := hk33.1 62 rfl
              have hg33 := hk33.1 49 rfl
              try dsimp only [Nat.beq, gI_sI, gI_sL, gI_sA, gI_sM, gL_sI, gL_sL, gL_sA, gL_sM, aI_sI, aI_sL, aI_sA, aI_sM, aL_sI, aL_sL, aL_sA, aL_sM] at hh33
              try dsimp only [Nat.beq, gI_sI, gI_sL, gI_sA, gI_sM, gL_sI, gL_sL, gL_sA, gL_sM, aI_sI, aI_sL, aI_sA, aI_sM, aL_sI, aL_sL, aL_sA, aL_sM] at hg33
              have hz33 := congrFun ht33 (gI τ33 14).toNatClampNeg
              try simp only [hR33.e2, hR33.e14, hR33.e15, hR33.e17, hR33.e18, hR33.e36, hR33.e42, hR33.e49, hR33.e62, hR33.a3, hR33.a6, hR33.a51, hR33.a19, hR33.a63, hR33.a64, hR33.hp, hR.e18, hR17.e18]
              refine ⟨fun h36 => ⟨(by exact h36), ?_⟩, fun h36 => absurd h36 (by decide)⟩
              clear h36
              refine hB _ _ _ _ _ _ _ _ (fun m37 hm37 => ?_)
              dsimp only [jgo, jwp, jst, jct, rfd, Bgives, Nat.beq, lv_args, rlk, rs1, rs2, rdl, rky, rcd, rno, rsw, Value.category, List.filter, List.take, List.drop, List.reverse, List.reverseAux, List.cons_append, List.nil_append, Option.toList, Int.toNat, Int.reduceToNat, if_pos, if_neg, reduceIte, ↓reduceIte, Nat.reduceAdd, Nat.reduceEqDiff, Nat.reduceBEq, beq_self_eq_true, Bool.not_true, Bool.not_false, Bool.and_true, Bool.and_false, Bool.true_and, Bool.false_and, gI_sI, gI_sL, gI_sA, gI_sM, gL_sI, gL_sL, gL_sA, gL_sM, aI_sI, aI_sL, aI_sA, aI_sM, aL_sI, aL_sL, aL_sA, aL_sM, Bgives_0, Bgives_28, Bgives_30, Bgives_34, Bgives_43, Bgives_47, Bgives_48, Bgives_55, Bgives_62, Bgives_64, Bgives_69, Bgives_74, Bgives_76, Bgives_81, Bgives_85, Bgives_86, Bgives_103, Bgives_110, Bgives_112, Bgives_122, Bgives_124, oi_0, oi_1, oi_17, oi_20, oi_45, oi_48, oi_49, oi_59, oi_m2, Pu_emit, Pj_expression, Pj_finished, Pj_isSign, Pj_isWord, Pj_take, Pj_want]; try dsimp only
              try simp only [hR33.e2, hR33.e14, hR33.e15, hR33.e17, hR33.e18, hR33.e36, hR33.e42, hR33.e49, hR33.e62, hR33.a3, hR33.a6, hR33.a51, hR33.a19, hR33.a63, hR33.a64, hR33.hp, hR.e18, hR17.e18]
              refine ⟨⟨trivial, trivial⟩, fun w38 τ38 w38' τ38' hq38 => ?_⟩
              obtain ⟨⟨rfl, hE38⟩, rfl, hF38⟩ := hq38
              have hR38 : Rj 1 τ38 τ38' := Rj.em (by (repeat (first | exact hR33 | refine Rj.i ?_ rfl | refine Rj.a ?_ rfl | refine Rj.m ?_ | refine Rj.s ?_ (by decide) | refine Rj.o1 ?_ (by first | lia | (dsimp only [Nat.beq, gI_sI, gI_sL, gI_sA, gI_sM, gL_sI, gL_sL, gL_sA, gL_sM, aI_sI, aI_sL, aI_sA, aI_sM, aL_sI, aL_sL, aL_sA, aL_sM]; lia)) | refine Rj.o2 ?_ | refine Rj.f1 ?_ (by first | lia | (dsimp only [Nat.beq, gI_sI, gI_sL, gI_sA, gI_sM, gL_sI, gL_sL, gL_sA, gL_sM, aI_sI, aI_sL, aI_sA, aI_sM, aL_sI, aL_sL, aL_sA, aL_sM]; lia)) | refine Rj.f2 ?_ | refine Rj.fs ?_))) hE38 hF38 (by first | exact fun _ => rfl | exact fun q => absurd q (by decide))
              have hp38 := hE38.1 14 (by decide)
              have ho38 := hE38.1 29 (by decide)
              have hh38 := hE38.1 62 (by decide)
              have hg38 := hE38.1 49 (by decide)
              have hw38 := hE38.1 34 (by decide)
              have hv38 := hF38.1 34 (by decide)
              have ht38 := hE38.2.2.2.2.1 3 (by decide)
              try dsimp only [Nat.beq, gI_sI, gI_sL, gI_sA, gI_sM, gL_sI, gL_sL, gL_sA, gL_sM, aI_sI, aI_sL, aI_sA, aI_sM, aL_sI, aL_sL, aL_sA, aL_sM] at hp38
              try dsimp only [Nat.beq, gI_sI, gI_sL, gI_sA, gI_sM, gL_sI, gL_sL, gL_sA, gL_sM, aI_sI, aI_sL, aI_sA, aI_sM, aL_sI, aL_sL, aL_sA, aL_sM] at ho38
              try dsimp only [Nat.beq, gI_sI, gI_sL, gI_sA, gI_sM, gL_sI, gL_sL, gL_sA, gL_sM, aI_sI, aI_sL, aI_sA, aI_sM, aL_sI, aL_sL, aL_sA, aL_sM] at hh38
              try dsimp only [Nat.beq, gI_sI, gI_sL, gI_sA, gI_sM, gL_sI, gL_sL, gL_sA, gL_sM, aI_sI, aI_sL, aI_sA, aI_sM, aL_sI, aL_sL, aL_sA, aL_sM] at hg38
              try dsimp only [Nat.beq, gI_sI, gI_sL, gI_sA, gI_sM, gL_sI, gL_sL, gL_sA, gL_sM, aI_sI, aI_sL, aI_sA, aI_sM, aL_sI, aL_sL, aL_sA, aL_sM] at hw38
              try dsimp only [Nat.beq, gI_sI, gI_sL, gI_sA, gI_sM, gL_sI, gL_sL, gL_sA, gL_sM, aI_sI, aI_sL, aI_sA, aI_sM, aL_sI, aL_sL, aL_sA, aL_sM] at hv38
              try dsimp only [Nat.beq, gI_sI, gI_sL, gI_sA, gI_sM, gL_sI, gL_sL, gL_sA, gL_sM, aI_sI, aI_sL, aI_sA, aI_sM, aL_sI, aL_sL, aL_sA, aL_sM] at ht38
              have hz38 := congrFun ht38 (gI τ38 14).toNatClampNeg
              dsimp only [Option.toList, List.cons_append, List.nil_append, Nat.beq, gI_sI, gI_sL, gI_sA, gI_sM, gL_sI, gL_sL, gL_sA, gL_sM, aI_sI, aI_sL, aI_sA, aI_sM, aL_sI, aL_sL, aL_sA, aL_sM]
              try simp only [hR38.e2, hR38.e14, hR38.e15, hR38.e17, hR38.e18, hR38.e36, hR38.e42, hR38.e49, hR38.e62, hR38.a3, hR38.a6, hR38.a51, hR38.a19, hR38.a63, hR38.a64, hR38.hp, hR.e18, hR17.e18, hR33.e18]
              refine ⟨(by (repeat (first | exact hR38 | refine Rj.i ?_ rfl | refine Rj.a ?_ rfl | refine Rj.m ?_ | refine Rj.s ?_ (by decide) | refine Rj.o1 ?_ (by first | lia | (dsimp only [Nat.beq, gI_sI, gI_sL, gI_sA, gI_sM, gL_sI, gL_sL, gL_sA, gL_sM, aI_sI, aI_sL, aI_sA, aI_sM, aL_sI, aL_sL, aL_sA, aL_sM]; lia)) | refine Rj.o2 ?_ | refine Rj.f1 ?_ (by first | lia | (dsimp only [Nat.beq, gI_sI, gI_sL, gI_sA, gI_sM, gL_sI, gL_sL, gL_sA, gL_sM, aI_sI, aI_sL, aI_sA, aI_sM, aL_sI, aL_sL, aL_sA, aL_sM]; lia)) | refine Rj.f2 ?_ | refine Rj.fs ?_))), fun w39 τ39 w39' τ39' hq39 => ?_⟩
              obtain ⟨b39, rfl, rfl, hb39⟩ := hq39
              rcases hb39 with rfl | ⟨rfl, hR39⟩
              · dsimp only [Option.toList, List.cons_append, List.nil_append, Nat.beq, gI_sI, gI_sL, gI_sA, gI_sM, gL_sI, gL_sL, gL_sA, gL_sM, aI_sI, aI_sL, aI_sA, aI_sM, aL_sI, aL_sL, aL_sA, aL_sM]
                try simp only [hR38.e2, hR38.e14, hR38.e15, hR38.e17, hR38.e18, hR38.e36, hR38.e42, hR38.e49, hR38.e62, hR38.a3, hR38.a6, hR38.a51, hR38.a19, hR38.a63, hR38.a64, hR38.hp, hR.e18, hR17.e18, hR33.e18]
                unfold Qj_gives
                try dsimp only
                exact ⟨_, rfl, rfl, Or.inl rfl⟩
              · dsimp only [Option.toList, List.cons_append, List.nil_append, Nat.beq, gI_sI, gI_sL, gI_sA, gI_sM, gL_sI, gL_sL, gL_sA, gL_sM, aI_sI, aI_sL, aI_sA, aI_sM, aL_sI, aL_sL, aL_sA, aL_sM]
                try simp only [hR39.e2, hR39.e14, hR39.e15, hR39.e17, hR39.e18, hR39.e36, hR39.e42, hR39.e49, hR39.e62, hR39.a3, hR39.a6, hR39.a51, hR39.a19, hR39.a63, hR39.a64, hR39.hp, hR.e18, hR17.e18, hR33.e18]
                unfold Qj_gives
                try dsimp only
                exact ⟨_, rfl, rfl, Or.inr ⟨rfl, by (repeat (first | exact hR39 | refine Rj.i ?_ rfl | refine Rj.a ?_ rfl | refine Rj.m ?_ | refine Rj.s ?_ (by decide) | refine Rj.o1 ?_ (by first | lia | (dsimp only [Nat.beq, gI_sI, gI_sL, gI_sA, gI_sM, gL_sI, gL_sL, gL_sA, gL_sM, aI_sI, aI_sL, aI_sA, aI_sM, aL_sI, aL_sL, aL_sA, aL_sM]; lia)) | refine Rj.o2 ?_ | refine Rj.f1 ?_ (by first | lia | (dsimp only [Nat.beq, gI_sI, gI_sL, gI_sA, gI_sM, gL_sI, gL_sL, gL_sA, gL_sM, aI_sI, aI_sL, aI_sA, aI_sM, aL_sI, aL_sL, aL_sA, aL_sM]; lia)) | refine Rj.f2 ?_ | refine Rj.fs ?_))⟩⟩
        · dsimp only [Option.toList, List.cons_append, List.nil_append, Nat.beq, gI_sI, gI_sL, gI_sA, gI_sM, gL_sI, gL_sL, gL_sA, gL_sM, aI_sI, aI_sL, aI_sA, aI_sM, aL_sI, aL_sL, aL_sA, aL_sM]
          try dsimp only [Nat.beq, gI_sI, gI_sL, gI_sA, gI_sM, gL_sI, gL_sL, gL_sA, gL_sM, aI_sI, aI_sL, aI_sA, aI_sM, aL_sI, aL_sL, aL_sA, aL_sM] at hf11
          try simp only [hR4.e2, hR4.e14, hR4.e15, hR4.e17, hR4.e18, hR4.e36, hR4.e42, hR4.e49, hR4.e62, hR4.a3, hR4.a6, hR4.a51, hR4.a19, hR4.a63, hR4.a64, hR4.hp, hR.e18]
          refine ⟨fun h40 => ⟨(by exact h40), ?_⟩, fun h40 => absurd h40 (by decide)⟩
          clear h40
          refine hB _ _ _ _ _ _ _ _ (fun m41 hm41 => ?_)
          dsimp only [jgo, jwp, jst, jct, rfd, Bgives, Nat.beq, lv_args, rlk, rs1, rs2, rdl, rky, rcd, rno, rsw, Value.category, List.filter, List.take, List.drop, List.reverse, List.reverseAux, List.cons_append, List.nil_append, Option.toList, Int.toNat, Int.reduceToNat, if_pos, if_neg, reduceIte, ↓reduceIte, Nat.reduceAdd, Nat.reduceEqDiff, Nat.reduceBEq, beq_self_eq_true, Bool.not_true, Bool.not_false, Bool.and_true, Bool.and_false, Bool.true_and, Bool.false_and, gI_sI, gI_sL, gI_sA, gI_sM, gL_sI, gL_sL, gL_sA, gL_sM, aI_sI, aI_sL, aI_sA, aI_sM, aL_sI, aL_sL, aL_sA, aL_sM, Bgives_0, Bgives_28, Bgives_30, Bgives_34, Bgives_43, Bgives_47, Bgives_48, Bgives_55, Bgives_62, Bgives_64, Bgives_69, Bgives_74, Bgives_76, Bgives_81, Bgives_85, Bgives_86, Bgives_103, Bgives_110, Bgives_112, Bgives_122, Bgives_124, oi_0, oi_1, oi_17, oi_20, oi_45, oi_48, oi_49, oi_59, oi_m2, Pu_emit, Pj_expression, Pj_finished, Pj_isSign, Pj_isWord, Pj_take, Pj_want]; try dsimp only
          try simp only [hR4.e2, hR4.e14, hR4.e15, hR4.e17, hR4.e18, hR4.e36, hR4.e42, hR4.e49, hR4.e62, hR4.a3, hR4.a6, hR4.a51, hR4.a19, hR4.a63, hR4.a64, hR4.hp, hR.e18]
          refine hB _ _ _ _ _ _ _ _ (fun m42 hm42 => ?_)
          dsimp only [jgo, jwp, jst, jct, rfd, Bgives, Nat.beq, lv_args, rlk, rs1, rs2, rdl, rky, rcd, rno, rsw, Value.category, List.filter, List.take, List.drop, List.reverse, List.reverseAux, List.cons_append, List.nil_append, Option.toList, Int.toNat, Int.reduceToNat, if_pos, if_neg, reduceIte, ↓reduceIte, Nat.reduceAdd, Nat.reduceEqDiff, Nat.reduceBEq, beq_self_eq_true, Bool.not_true, Bool.not_false, Bool.and_true, Bool.and_false, Bool.true_and, Bool.false_and, gI_sI, gI_sL, gI_sA, gI_sM, gL_sI, gL_sL, gL_sA, gL_sM, aI_sI, aI_sL, aI_sA, aI_sM, aL_sI, aL_sL, aL_sA, aL_sM, Bgives_0, Bgives_28, Bgives_30, Bgives_34, Bgives_43, Bgives_47, Bgives_48, Bgives_55, Bgives_62, Bgives_64, Bgives_69, Bgives_74, Bgives_76, Bgives_81, Bgives_85, Bgives_86, Bgives_103, Bgives_110, Bgives_112, Bgives_122, Bgives_124, oi_0, oi_1, oi_17, oi_20, oi_45, oi_48, oi_49, oi_59, oi_m2, Pu_emit, Pj_expression, Pj_finished, Pj_isSign, Pj_isWord, Pj_take, Pj_want]; try dsimp only
          try simp only [hR4.e2, hR4.e14, hR4.e15, hR4.e17, hR4.e18, hR4.e36, hR4.e42, hR4.e49, hR4.e62, hR4.a3, hR4.a6, hR4.a51, hR4.a19, hR4.a63, hR4.a64, hR4.hp, hR.e18]
          refine ⟨fun h43 => ⟨(by exact h43), ?_⟩, fun h43 => absurd h43 (by decide)⟩
          clear h43
          refine hB _ _ _ _ _ _ _ _ (fun m44 hm44 => ?_)
          dsimp only [jgo, jwp, jst, jct, rfd, Bgives, Nat.beq, lv_args, rlk, rs1, rs2, rdl, rky, rcd, rno, rsw, Value.category, List.filter, List.take, List.drop, List.reverse, List.reverseAux, List.cons_append, List.nil_append, Option.toList, Int.toNat, Int.reduceToNat, if_pos, if_neg, reduceIte, ↓reduceIte, Nat.reduceAdd, Nat.reduceEqDiff, Nat.reduceBEq, beq_self_eq_true, Bool.not_true, Bool.not_false, Bool.and_true, Bool.and_false, Bool.true_and, Bool.false_and, gI_sI, gI_sL, gI_sA, gI_sM, gL_sI, gL_sL, gL_sA, gL_sM, aI_sI, aI_sL, aI_sA, aI_sM, aL_sI, aL_sL, aL_sA, aL_sM, Bgives_0, Bgives_28, Bgives_30, Bgives_34, Bgives_43, Bgives_47, Bgives_48, Bgives_55, Bgives_62, Bgives_64, Bgives_69, Bgives_74, Bgives_76, Bgives_81, Bgives_85, Bgives_86, Bgives_103, Bgives_110, Bgives_112, Bgives_122, Bgives_124, oi_0, oi_1, oi_17, oi_20, oi_45, oi_48, oi_49, oi_59, oi_m2, Pu_emit, Pj_expression, Pj_finished, Pj_isSign, Pj_isWord, Pj_take, Pj_want]; try dsimp only
          try simp only [hR4.e2, hR4.e14, hR4.e15, hR4.e17, hR4.e18, hR4.e36, hR4.e42, hR4.e49, hR4.e62, hR4.a3, hR4.a6, hR4.a51, hR4.a19, hR4.a63, hR4.a64, hR4.hp, hR.e18]
          refine ⟨fun h45 => ⟨(by exact h45), ?_⟩, fun h45 => absurd h45 (by decide)⟩
          clear h45
          refine hB _ _ _ _ _ _ _ _ (fun m46 hm46 => ?_)
          dsimp only [jgo, jwp, jst, jct, rfd, Bgives, Nat.beq, lv_args, rlk, rs1, rs2, rdl, rky, rcd, rno, rsw, Value.category, List.filter, List.take, List.drop, List.reverse, List.reverseAux, List.cons_append, List.nil_append, Option.toList, Int.toNat, Int.reduceToNat, if_pos, if_neg, reduceIte, ↓reduceIte, Nat.reduceAdd, Nat.reduceEqDiff, Nat.reduceBEq, beq_self_eq_true, Bool.not_true, Bool.not_false, Bool.and_true, Bool.and_false, Bool.true_and, Bool.false_and, gI_sI, gI_sL, gI_sA, gI_sM, gL_sI, gL_sL, gL_sA, gL_sM, aI_sI, aI_sL, aI_sA, aI_sM, aL_sI, aL_sL, aL_sA, aL_sM, Bgives_0, Bgives_28, Bgives_30, Bgives_34, Bgives_43, Bgives_47, Bgives_48, Bgives_55, Bgives_62, Bgives_64, Bgives_69, Bgives_74, Bgives_76, Bgives_81, Bgives_85, Bgives_86, Bgives_103, Bgives_110, Bgives_112, Bgives_122, Bgives_124, oi_0, oi_1, oi_17, oi_20, oi_45, oi_48, oi_49, oi_59, oi_m2, Pu_emit, Pj_expression, Pj_finished, Pj_isSign, Pj_isWord, Pj_take, Pj_want]; try dsimp only
          try simp only [hR4.e2, hR4.e14, hR4.e15, hR4.e17, hR4.e18, hR4.e36, hR4.e42, hR4.e49, hR4.e62, hR4.a3, hR4.a6, hR4.a51, hR4.a19, hR4.a63, hR4.a64, hR4.hp, hR.e18]
          refine hB _ _ _ _ _ _ _ _ (fun m47 hm47 => ?_)
          dsimp only [jgo, jwp, jst, jct, rfd, Bgives, Nat.beq, lv_args, rlk, rs1, rs2, rdl, rky, rcd, rno, rsw, Value.category, List.filter, List.take, List.drop, List.reverse, List.reverseAux, List.cons_append, List.nil_append, Option.toList, Int.toNat, Int.reduceToNat, if_pos, if_neg, reduceIte, ↓reduceIte, Nat.reduceAdd, Nat.reduceEqDiff, Nat.reduceBEq, beq_self_eq_true, Bool.not_true, Bool.not_false, Bool.and_true, Bool.and_false, Bool.true_and, Bool.false_and, gI_sI, gI_sL, gI_sA, gI_sM, gL_sI, gL_sL, gL_sA, gL_sM, aI_sI, aI_sL, aI_sA, aI_sM, aL_sI, aL_sL, aL_sA, aL_sM, Bgives_0, Bgives_28, Bgives_30, Bgives_34, Bgives_43, Bgives_47, Bgives_48, Bgives_55, Bgives_62, Bgives_64, Bgives_69, Bgives_74, Bgives_76, Bgives_81, Bgives_85, Bgives_86, Bgives_103, Bgives_110, Bgives_112, Bgives_122, Bgives_124, oi_0, oi_1, oi_17, oi_20, oi_45, oi_48, oi_49, oi_59, oi_m2, Pu_emit, Pj_expression, Pj_finished, Pj_isSign, Pj_isWord, Pj_take, Pj_want]; try dsimp only
          try simp only [hR4.e2, hR4.e14, hR4.e15, hR4.e17, hR4.e18, hR4.e36, hR4.e42, hR4.e49, hR4.e62, hR4.a3, hR4.a6, hR4.a51, hR4.a19, hR4.a63, hR4.a64, hR4.hp, hR.e18]
          refine ⟨fun h48 => ⟨(by exact h48), ?_⟩, fun h48 => absurd h48 (by decide)⟩
          clear h48
          refine hB _ _ _ _ _ _ _ _ (fun m49 hm49 => ?_)
          dsimp only [jgo, jwp, jst, jct, rfd, Bgives, Nat.beq, lv_args, rlk, rs1, rs2, rdl, rky, rcd, rno, rsw, Value.category, List.filter, List.take, List.drop, List.reverse, List.reverseAux, List.cons_append, List.nil_append, Option.toList, Int.toNat, Int.reduceToNat, if_pos, if_neg, reduceIte, ↓reduceIte, Nat.reduceAdd, Nat.reduceEqDiff, Nat.reduceBEq, beq_self_eq_true, Bool.not_true, Bool.not_false, Bool.and_true, Bool.and_false, Bool.true_and, Bool.false_and, gI_sI, gI_sL, gI_sA, gI_sM, gL_sI, gL_sL, gL_sA, gL_sM, aI_sI, aI_sL, aI_sA, aI_sM, aL_sI, aL_sL, aL_sA, aL_sM, Bgives_0, Bgives_28, Bgives_30, Bgives_34, Bgives_43, Bgives_47, Bgives_48, Bgives_55, Bgives_62, Bgives_64, Bgives_69, Bgives_74, Bgives_76, Bgives_81, Bgives_85, Bgives_86, Bgives_103, Bgives_110, Bgives_112, Bgives_122, Bgives_124, oi_0, oi_1, oi_17, oi_20, oi_45, oi_48, oi_49, oi_59, oi_m2, Pu_emit, Pj_expression, Pj_finished, Pj_isSign, Pj_isWord, Pj_take, Pj_want]; try dsimp only
          try simp only [hR4.e2, hR4.e14, hR4.e15, hR4.e17, hR4.e18, hR4.e36, hR4.e42, hR4.e49, hR4.e62, hR4.a3, hR4.a6, hR4.a51, hR4.a19, hR4.a63, hR4.a64, hR4.hp, hR.e18]
          refine hB _ _ _ _ _ _ _ _ (fun m50 hm50 => ?_)
          dsimp only [jgo, jwp, jst, jct, rfd, Bgives, Nat.beq, lv_args, rlk, rs1, rs2, rdl, rky, rcd, rno, rsw, Value.category, List.filter, List.take, List.drop, List.reverse, List.reverseAux, List.cons_append, List.nil_append, Option.toList, Int.toNat, Int.reduceToNat, if_pos, if_neg, reduceIte, ↓reduceIte, Nat.reduceAdd, Nat.reduceEqDiff, Nat.reduceBEq, beq_self_eq_true, Bool.not_true, Bool.not_false, Bool.and_true, Bool.and_false, Bool.true_and, Bool.false_and, gI_sI, gI_sL, gI_sA, gI_sM, gL_sI, gL_sL, gL_sA, gL_sM, aI_sI, aI_sL, aI_sA, aI_sM, aL_sI, aL_sL, aL_sA, aL_sM, Bgives_0, Bgives_28, Bgives_30, Bgives_34, Bgives_43, Bgives_47, Bgives_48, Bgives_55, Bgives_62, Bgives_64, Bgives_69, Bgives_74, Bgives_76, Bgives_81, Bgives_85, Bgives_86, Bgives_103, Bgives_110, Bgives_112, Bgives_122, Bgives_124, oi_0, oi_1, oi_17, oi_20, oi_45, oi_48, oi_49, oi_59, oi_m2, Pu_emit, Pj_expression, Pj_finished, Pj_isSign, Pj_isWord, Pj_take, Pj_want]; try dsimp only
          try simp only [hR4.e2, hR4.e14, hR4.e15, hR4.e17, hR4.e18, hR4.e36, hR4.e42, hR4.e49, hR4.e62, hR4.a3, hR4.a6, hR4.a51, hR4.a19, hR4.a63, hR4.a64, hR4.hp, hR.e18]
          refine ⟨⟨trivial, trivial⟩, fun w51 τ51 w51' τ51' hq51 => ?_⟩
          obtain ⟨⟨rfl, hE51⟩, rfl, hF51⟩ := hq51
          have hR51 : Rj 1 τ51 τ51' := Rj.em (by (repeat (first | exact hR4 | refine Rj.i ?_ rfl | refine Rj.a ?_ rfl | refine Rj.m ?_ | refine Rj.s ?_ (by decide) | refine Rj.o1 ?_ (by first | lia | (dsimp only [Nat.beq, gI_sI, gI_sL, gI_sA, gI_sM, gL_sI, gL_sL, gL_sA, gL_sM, aI_sI, aI_sL, aI_sA, aI_sM, aL_sI, aL_sL, aL_sA, aL_sM]; lia)) | refine Rj.o2 ?_ | refine Rj.f1 ?_ (by first | lia | (dsimp only [Nat.beq, gI_sI, gI_sL, gI_sA, gI_sM, gL_sI, gL_sL, gL_sA, gL_sM, aI_sI, aI_sL, aI_sA, aI_sM, aL_sI, aL_sL, aL_sA, aL_sM]; lia)) | refine Rj.f2 ?_ | refine Rj.fs ?_))) hE51 hF51 (by first | exact fun _ => rfl | exact fun q => absurd q (by decide))
          have hp51 := hE51.1 14 (by decide)
          have ho51 := hE51.1 29 (by decide)
          have hh51 := hE51.1 62 (by decide)
          have hg51 := hE51.1 49 (by decide)
          have hw51 := hE51.1 34 (by decide)
          have hv51 := hF51.1 34 (by decide)
          have ht51 := hE51.2.2.2.2.1 3 (by decide)
          try dsimp only [Nat.beq, gI_sI, gI_sL, gI_sA, gI_sM, gL_sI, gL_sL, gL_sA, gL_sM, aI_sI, aI_sL, aI_sA, aI_sM, aL_sI, aL_sL, aL_sA, aL_sM] at hp51
          try dsimp only [Nat.beq, gI_sI, gI_sL, gI_sA, gI_sM, gL_sI, gL_sL, gL_sA, gL_sM, aI_sI, aI_sL, aI_sA, aI_sM, aL_sI, aL_sL, aL_sA, aL_sM] at ho51
          try dsimp only [Nat.beq, gI_sI, gI_sL, gI_sA, gI_sM, gL_sI, gL_sL, gL_sA, gL_sM, aI_sI, aI_sL, aI_sA, aI_sM, aL_sI, aL_sL, aL_sA, aL_sM] at hh51
          try dsimp only [Nat.beq, gI_sI, gI_sL, gI_sA, gI_sM, gL_sI, gL_sL, gL_sA, gL_sM, aI_sI, aI_sL, aI_sA, aI_sM, aL_sI, aL_sL, aL_sA, aL_sM] at hg51
          try dsimp only [Nat.beq, gI_sI, gI_sL, gI_sA, gI_sM, gL_sI, gL_sL, gL_sA, gL_sM, aI_sI, aI_sL, aI_sA, aI_sM, aL_sI, aL_sL, aL_sA, aL_sM] at hw51
          try dsimp only [Nat.beq, gI_sI, gI_sL, gI_sA, gI_sM, gL_sI, gL_sL, gL_sA, gL_sM, aI_sI, aI_sL, aI_sA, aI_sM, aL_sI, aL_sL, aL_sA, aL_sM] at hv51
          try dsimp only [Nat.beq, gI_sI, gI_sL, gI_sA, gI_sM, gL_sI, gL_sL, gL_sA, gL_sM, aI_sI, aI_sL, aI_sA, aI_sM, aL_sI, aL_sL, aL_sA, aL_sM] at ht51
          have hz51 := congrFun ht51 (gI τ51 14).toNatClampNeg
          dsimp only [Option.toList, List.cons_append, List.nil_append, Nat.beq, gI_sI, gI_sL, gI_sA, gI_sM, gL_sI, gL_sL, gL_sA, gL_sM, aI_sI, aI_sL, aI_sA, aI_sM, aL_sI, aL_sL, aL_sA, aL_sM]
          try simp only [hR51.e2, hR51.e14, hR51.e15, hR51.e17, hR51.e18, hR51.e36, hR51.e42, hR51.e49, hR51.e62, hR51.a3, hR51.a6, hR51.a51, hR51.a19, hR51.a63, hR51.a64, hR51.hp, hR.e18, hR4.e18]
          refine ⟨fun h52 => ⟨(by exact h52), ?_⟩, fun h52 => absurd h52 (by decide)⟩
          clear h52
          refine hB _ _ _ _ _ _ _ _ (fun m53 hm53 => ?_)
          dsimp only [jgo, jwp, jst, jct, rfd, Bgives, Nat.beq, lv_args, rlk, rs1, rs2, rdl, rky, rcd, rno, rsw, Value.category, List.filter, List.take, List.drop, List.reverse, List.reverseAux, List.cons_append, List.nil_append, Option.toList, Int.toNat, Int.reduceToNat, if_pos, if_neg, reduceIte, ↓reduceIte, Nat.reduceAdd, Nat.reduceEqDiff, Nat.reduceBEq, beq_self_eq_true, Bool.not_true, Bool.not_false, Bool.and_true, Bool.and_false, Bool.true_and, Bool.false_and, gI_sI, gI_sL, gI_sA, gI_sM, gL_sI, gL_sL, gL_sA, gL_sM, aI_sI, aI_sL, aI_sA, aI_sM, aL_sI, aL_sL, aL_sA, aL_sM, Bgives_0, Bgives_28, Bgives_30, Bgives_34, Bgives_43, Bgives_47, Bgives_48, Bgives_55, Bgives_62, Bgives_64, Bgives_69, Bgives_74, Bgives_76, Bgives_81, Bgives_85, Bgives_86, Bgives_103, Bgives_110, Bgives_112, Bgives_122, Bgives_124, oi_0, oi_1, oi_17, oi_20, oi_45, oi_48, oi_49, oi_59, oi_m2, Pu_emit, Pj_expression, Pj_finished, Pj_isSign, Pj_isWord, Pj_take, Pj_want]; try dsimp only
          try simp only [hR51.e2, hR51.e14, hR51.e15, hR51.e17, hR51.e18, hR51.e36, hR51.e42, hR51.e49, hR51.e62, hR51.a3, hR51.a6, hR51.a51, hR51.a19, hR51.a63, hR51.a64, hR51.hp, hR.e18, hR4.e18]
          refine hB _ _ _ _ _ _ _ _ (fun m54 hm54 => ?_)
          dsimp only [jgo, jwp, jst, jct, rfd, Bgives, Nat.beq, lv_args, rlk, rs1, rs2, rdl, rky, rcd, rno, rsw, Value.category, List.filter, List.take, List.drop, List.reverse, List.reverseAux, List.cons_append, List.nil_append, Option.toList, Int.toNat, Int.reduceToNat, if_pos, if_neg, reduceIte, ↓reduceIte, Nat.reduceAdd, Nat.reduceEqDiff, Nat.reduceBEq, beq_self_eq_true, Bool.not_true, Bool.not_false, Bool.and_true, Bool.and_false, Bool.true_and, Bool.false_and, gI_sI, gI_sL, gI_sA, gI_sM, gL_sI, gL_sL, gL_sA, gL_sM, aI_sI, aI_sL, aI_sA, aI_sM, aL_sI, aL_sL, aL_sA, aL_sM, Bgives_0, Bgives_28, Bgives_30, Bgives_34, Bgives_43, Bgives_47, Bgives_48, Bgives_55, Bgives_62, Bgives_64, Bgives_69, Bgives_74, Bgives_76, Bgives_81, Bgives_85, Bgives_86, Bgives_103, Bgives_110, Bgives_112, Bgives_122, Bgives_124, oi_0, oi_1, oi_17, oi_20, oi_45, oi_48, oi_49, oi_59, oi_m2, Pu_emit, Pj_expression, Pj_finished, Pj_isSign, Pj_isWord, Pj_take, Pj_want]; try dsimp only
          try simp only [hR51.e2, hR51.e14, hR51.e15, hR51.e17, hR51.e18, hR51.e36, hR51.e42, hR51.e49, hR51.e62, hR51.a3, hR51.a6, hR51.a51, hR51.a19, hR51.a63, hR51.a64, hR51.hp, hR.e18, hR4.e18]
          intro p55 q55
          try simp only [hR51.e2, hR51.e14, hR51.e15, hR51.e17, hR51.e18, hR51.e36, hR51.e42, hR51.e49, hR51.e62, hR51.a3, hR51.a6, hR51.a51, hR51.a19, hR51.a63, hR51.a64, hR51.hp, hR.e18, hR4.e18]
          refine ⟨⟨(Rj.w (md := 1) (by (repeat (first | exact hR51 | refine Rj.i ?_ rfl | refine Rj.a ?_ rfl | refine Rj.m ?_ | refine Rj.s ?_ (by decide) | refine Rj.o1 ?_ (by first | lia | (dsimp only [Nat.beq, gI_sI, gI_sL, gI_sA, gI_sM, gL_sI, gL_sL, gL_sA, gL_sM, aI_sI, aI_sL, aI_sA, aI_sM, aL_sI, aL_sL, aL_sA, aL_sM]; lia)) | refine Rj.o2 ?_ | refine Rj.f1 ?_ (by first | lia | (dsimp only [Nat.beq, gI_sI, gI_sL, gI_sA, gI_sM, gL_sI, gL_sL, gL_sA, gL_sM, aI_sI, aI_sL, aI_sA, aI_sM, aL_sI, aL_sL, aL_sA, aL_sM]; lia)) | refine Rj.f2 ?_ | refine Rj.fs ?_)))), (by first | exact True.intro | rfl)⟩, fun w56 τ56 w56' τ56' hq56 => ?_⟩
          obtain ⟨b56, rfl, rfl, hb56⟩ := hq56
          rcases hb56 with rfl | ⟨rfl, hr56, hk56, hx56⟩
          · dsimp only [Option.toList, List.cons_append, List.nil_append, Nat.beq, gI_sI, gI_sL, gI_sA, gI_sM, gL_sI, gL_sL, gL_sA, gL_sM, aI_sI, aI_sL, aI_sA, aI_sM, aL_sI, aL_sL, aL_sA, aL_sM]
            try simp only [hR51.e2, hR51.e14, hR51.e15, hR51.e17, hR51.e18, hR51.e36, hR51.e42, hR51.e49, hR51.e62, hR51.a3, hR51.a6, hR51.a51, hR51.a19, hR51.a63, hR51.a64, hR51.hp, hR.e18, hR4.e18]
            refine ⟨fun h57 => absurd h57 (by decide), fun h57 => ⟨(by exact h57), ?_⟩⟩
            clear h57
            refine hB _ _ _ _ _ _ _ _ (fun m58 hm58 => ?_)
            dsimp only [jgo, jwp, jst, jct, rfd, Bgives, Nat.beq, lv_args, rlk, rs1, rs2, rdl, rky, rcd, rno, rsw, Value.category, List.filter, List.take, List.drop, List.reverse, List.reverseAux, List.cons_append, List.nil_append, Option.toList, Int.toNat, Int.reduceToNat, if_pos, if_neg, reduceIte, ↓reduceIte, Nat.reduceAdd, Nat.reduceEqDiff, Nat.reduceBEq, beq_self_eq_true, Bool.not_true, Bool.not_false, Bool.and_true, Bool.and_false, Bool.true_and, Bool.false_and, gI_sI, gI_sL, gI_sA, gI_sM, gL_sI, gL_sL, gL_sA, gL_sM, aI_sI, aI_sL, aI_sA, aI_sM, aL_sI, aL_sL, aL_sA, aL_sM, Bgives_0, Bgives_28, Bgives_30, Bgives_34, Bgives_43, Bgives_47, Bgives_48, Bgives_55, Bgives_62, Bgives_64, Bgives_69, Bgives_74, Bgives_76, Bgives_81, Bgives_85, Bgives_86, Bgives_103, Bgives_110, Bgives_112, Bgives_122, Bgives_124, oi_0, oi_1, oi_17, oi_20, oi_45, oi_48, oi_49, oi_59, oi_m2, Pu_emit, Pj_expression, Pj_finished, Pj_isSign, Pj_isWord, Pj_take, Pj_want]; try dsimp only
            try simp only [hR51.e2, hR51.e14, hR51.e15, hR51.e17, hR51.e18, hR51.e36, hR51.e42, hR51.e49, hR51.e62, hR51.a3, hR51.a6, hR51.a51, hR51.a19, hR51.a63, hR51.a64, hR51.hp, hR.e18, hR4.e18]
            unfold Qj_gives
            try dsimp only
            exact ⟨_, rfl, rfl, Or.inl rfl⟩
          · dsimp only [Option.toList, List.cons_append, List.nil_append, Nat.beq, gI_sI, gI_sL, gI_sA, gI_sM, gL_sI, gL_sL, gL_sA, gL_sM, aI_sI, aI_sL, aI_sA, aI_sM, aL_sI, aL_sL, aL_sA, aL_sM]
            have hR56 : Rj 1 τ56 τ56' := hr56 _ (by (repeat (first | exact hR51 | refine Rj.i ?_ rfl | refine Rj.a ?_ rfl | refine Rj.m ?_ | refine Rj.s ?_ (by decide) | refine Rj.o1 ?_ (by first | lia | (dsimp only [Nat.beq, gI_sI, gI_sL, gI_sA, gI_sM, gL_sI, gL_sL, gL_sA, gL_sM, aI_sI, aI_sL, aI_sA, aI_sM, aL_sI, aL_sL, aL_sA, aL_sM]; lia)) | refine Rj.o2 ?_ | refine Rj.f1 ?_ (by first | lia | (dsimp only [Nat.beq, gI_sI, gI_sL, gI_sA, gI_sM, gL_sI, gL_sL, gL_sA, gL_sM, aI_sI, aI_sL, aI_sA, aI_sM, aL_sI, aL_sL, aL_sA, aL_sM]; lia)) | refine Rj.f2 ?_ | refine Rj.fs ?_)))
            have ht56 := hk56.2 3 rfl
            have hc56 := hk56.1 2 rfl
            try dsimp only [Nat.beq, gI_sI, gI_sL, gI_sA, gI_sM, gL_sI, gL_sL, gL_sA, gL_sM, aI_sI, aI_sL, aI_sA, aI_sM, aL_sI, aL_sL, aL_sA, aL_sM] at hx56
            try dsimp only [Nat.beq, gI_sI, gI_sL, gI_sA, gI_sM, gL_sI, gL_sL, gL_sA, gL_sM, aI_sI, aI_sL, aI_sA, aI_sM, aL_sI, aL_sL, aL_sA, aL_sM] at ht56
            try dsimp only [Nat.beq, gI_sI, gI_sL, gI_sA, gI_sM, gL_sI, gL_sL, gL_sA, gL_sM, aI_sI, aI_sL, aI_sA, aI_sM, aL_sI, aL_sL, aL_sA, aL_sM] at hc56
            have hh56 := hk56.1 62 rfl
            have hg56 := hk56.1 49 rfl
            try dsimp only [Nat.beq, gI_sI, gI_sL, gI_sA, gI_sM, gL_sI, gL_sL, gL_sA, gL_sM, aI_sI, aI_sL, aI_sA, aI_sM, aL_sI, aL_sL, aL_sA, aL_sM] at hh56
            try dsimp only [Nat.beq, gI_sI, gI_sL, gI_sA, gI_sM, gL_sI, gL_sL, gL_sA, gL_sM, aI_sI, aI_sL, aI_sA, aI_sM, aL_sI, aL_sL, aL_sA, aL_sM] at hg56
            have hz56 := congrFun ht56 (gI τ56 14).toNatClampNeg
            try simp only [hR56.e2, hR56.e14, hR56.e15, hR56.e17, hR56.e18, hR56.e36, hR56.e42, hR56.e49, hR56.e62, hR56.a3, hR56.a6, hR56.a51, hR56.a19, hR56.a63, hR56.a64, hR56.hp, hR.e18, hR4.e18]
            refine ⟨fun h59 => ⟨(by exact h59), ?_⟩, fun h59 => absurd h59 (by decide)⟩
            clear h59
            refine hB _ _ _ _ _ _ _ _ (fun m60 hm60 => ?_)
            dsimp only [jgo, jwp, jst, jct, rfd, Bgives, Nat.beq, lv_args, rlk, rs1, rs2, rdl, rky, rcd, rno, rsw, Value.category, List.filter, List.take, List.drop, List.reverse, List.reverseAux, List.cons_append, List.nil_append, Option.toList, Int.toNat, Int.reduceToNat, if_pos, if_neg, reduceIte, ↓reduceIte, Nat.reduceAdd, Nat.reduceEqDiff, Nat.reduceBEq, beq_self_eq_true, Bool.not_true, Bool.not_false, Bool.and_true, Bool.and_false, Bool.true_and, Bool.false_and, gI_sI, gI_sL, gI_sA, gI_sM, gL_sI, gL_sL, gL_sA, gL_sM, aI_sI, aI_sL, aI_sA, aI_sM, aL_sI, aL_sL, aL_sA, aL_sM, Bgives_0, Bgives_28, Bgives_30, Bgives_34, Bgives_43, Bgives_47, Bgives_48, Bgives_55, Bgives_62, Bgives_64, Bgives_69, Bgives_74, Bgives_76, Bgives_81, Bgives_85, Bgives_86, Bgives_103, Bgives_110, Bgives_112, Bgives_122, Bgives_124, oi_0, oi_1, oi_17, oi_20, oi_45, oi_48, oi_49, oi_59, oi_m2, Pu_emit, Pj_expression, Pj_finished, Pj_isSign, Pj_isWord, Pj_take, Pj_want]; try dsimp only
            try simp only [hR56.e2, hR56.e14, hR56.e15, hR56.e17, hR56.e18, hR56.e36, hR56.e42, hR56.e49, hR56.e62, hR56.a3, hR56.a6, hR56.a51, hR56.a19, hR56.a63, hR56.a64, hR56.hp, hR.e18, hR4.e18]
            refine ⟨⟨trivial, trivial⟩, fun w61 τ61 w61' τ61' hq61 => ?_⟩
            obtain ⟨⟨rfl, hE61⟩, rfl, hF61⟩ := hq61
            have hR61 : Rj 1 τ61 τ61' := Rj.em (by (repeat (first | exact hR56 | refine Rj.i ?_ rfl | refine Rj.a ?_ rfl | refine Rj.m ?_ | refine Rj.s ?_ (by decide) | refine Rj.o1 ?_ (by first | lia | (dsimp only [Nat.beq, gI_sI, gI_sL, gI_sA, gI_sM, gL_sI, gL_sL, gL_sA, gL_sM, aI_sI, aI_sL, aI_sA, aI_sM, aL_sI, aL_sL, aL_sA, aL_sM]; lia)) | refine Rj.o2 ?_ | refine Rj.f1 ?_ (by first | lia | (dsimp only [Nat.beq, gI_sI, gI_sL, gI_sA, gI_sM, gL_sI, gL_sL, gL_sA, gL_sM, aI_sI, aI_sL, aI_sA, aI_sM, aL_sI, aL_sL, aL_sA, aL_sM]; lia)) | refine Rj.f2 ?_ | refine Rj.fs ?_))) hE61 hF61 (by first | exact fun _ => rfl | exact fun q => absurd q (by decide))
            have hp61 := hE61.1 14 (by decide)
            have ho61 := hE61.1 29 (by decide)
            have hh61 := hE61.1 62 (by decide)
            have hg61 := hE61.1 49 (by decide)
            have hw61 := hE61.1 34 (by decide)
            have hv61 := hF61.1 34 (by decide)
            have ht61 := hE61.2.2.2.2.1 3 (by decide)
            try dsimp only [Nat.beq, gI_sI, gI_sL, gI_sA, gI_sM, gL_sI, gL_sL, gL_sA, gL_sM, aI_sI, aI_sL, aI_sA, aI_sM, aL_sI, aL_sL, aL_sA, aL_sM] at hp61
            try dsimp only [Nat.beq, gI_sI, gI_sL, gI_sA, gI_sM, gL_sI, gL_sL, gL_sA, gL_sM, aI_sI, aI_sL, aI_sA, aI_sM, aL_sI, aL_sL, aL_sA, aL_sM] at ho61
            try dsimp only [Nat.beq, gI_sI, gI_sL, gI_sA, gI_sM, gL_sI, gL_sL, gL_sA, gL_sM, aI_sI, aI_sL, aI_sA, aI_sM, aL_sI, aL_sL, aL_sA, aL_sM] at hh61
            try dsimp only [Nat.beq, gI_sI, gI_sL, gI_sA, gI_sM, gL_sI, gL_sL, gL_sA, gL_sM, aI_sI, aI_sL, aI_sA, aI_sM, aL_sI, aL_sL, aL_sA, aL_sM] at hg61
            try dsimp only [Nat.beq, gI_sI, gI_sL, gI_sA, gI_sM, gL_sI, gL_sL, gL_sA, gL_sM, aI_sI, aI_sL, aI_sA, aI_sM, aL_sI, aL_sL, aL_sA, aL_sM] at hw61
            try dsimp only [Nat.beq, gI_sI, gI_sL, gI_sA, gI_sM, gL_sI, gL_sL, gL_sA, gL_sM, aI_sI, aI_sL, aI_sA, aI_sM, aL_sI, aL_sL, aL_sA, aL_sM] at hv61
            try dsimp only [Nat.beq, gI_sI, gI_sL, gI_sA, gI_sM, gL_sI, gL_sL, gL_sA, gL_sM, aI_sI, aI_sL, aI_sA, aI_sM, aL_sI, aL_sL, aL_sA, aL_sM] at ht61
            have hz61 := congrFun ht61 (gI τ61 14).toNatClampNeg
            dsimp only [Option.toList, List.cons_append, List.nil_append, Nat.beq, gI_sI, gI_sL, gI_sA, gI_sM, gL_sI, gL_sL, gL_sA, gL_sM, aI_sI, aI_sL, aI_sA, aI_sM, aL_sI, aL_sL, aL_sA, aL_sM]
            try simp only [hR61.e2, hR61.e14, hR61.e15, hR61.e17, hR61.e18, hR61.e36, hR61.e42, hR61.e49, hR61.e62, hR61.a3, hR61.a6, hR61.a51, hR61.a19, hR61.a63, hR61.a64, hR61.hp, hR.e18, hR4.e18, hR56.e18]
            refine ⟨(by (repeat (first | exact hR61 | refine Rj.i ?_ rfl | refine Rj.a ?_ rfl | refine Rj.m ?_ | refine Rj.s ?_ (by decide) | refine Rj.o1 ?_ (by first | lia | (dsimp only [Nat.beq, gI_sI, gI_sL, gI_sA, gI_sM, gL_sI, gL_sL, gL_sA, gL_sM, aI_sI, aI_sL, aI_sA, aI_sM, aL_sI, aL_sL, aL_sA, aL_sM]; lia)) | refine Rj.o2 ?_ | refine Rj.f1 ?_ (by first | lia | (dsimp only [Nat.beq, gI_sI, gI_sL, gI_sA, gI_sM, gL_sI, gL_sL, gL_sA, gL_sM, aI_sI, aI_sL, aI_sA, aI_sM, aL_sI, aL_sL, aL_sA, aL_sM]; lia)) | refine Rj.f2 ?_ | refine Rj.fs ?_))), fun w62 τ62 w62' τ62' hq62 => ?_⟩
            obtain ⟨b62, rfl, rfl, hb62⟩ := hq62
            rcases hb62 with rfl | ⟨rfl, hR62⟩
            · dsimp only [Option.toList, List.cons_append, List.nil_append, Nat.beq, gI_sI, gI_sL, gI_sA, gI_sM, gL_sI, gL_sL, gL_sA, gL_sM, aI_sI, aI_sL, aI_sA, aI_sM, aL_sI, aL_sL, aL_sA, aL_sM]
              try simp only [hR61.e2, hR61.e14, hR61.e15, hR61.e17, hR61.e18, hR61.e36, hR61.e42, hR61.e49, hR61.e62, hR61.a3, hR61.a6, hR61.a51, hR61.a19, hR61.a63, hR61.a64, hR61.hp, hR.e18, hR4.e18, hR56.e18]
              unfold Qj_gives
              try dsimp only
              exact ⟨_, rfl, rfl, Or.inl rfl⟩
            · dsimp only [Option.toList, List.cons_append, List.nil_append, Nat.beq, gI_sI, gI_sL, gI_sA, gI_sM, gL_sI, gL_sL, gL_sA, gL_sM, aI_sI, aI_sL, aI_sA, aI_sM, aL_sI, aL_sL, aL_sA, aL_sM]
              try simp only [hR62.e2, hR62.e14, hR62.e15, hR62.e17, hR62.e18, hR62.e36, hR62.e42, hR62.e49, hR62.e62, hR62.a3, hR62.a6, hR62.a51, hR62.a19, hR62.a63, hR62.a64, hR62.hp, hR.e18, hR4.e18, hR56.e18]
              unfold Qj_gives
              try dsimp only
              exact ⟨_, rfl, rfl, Or.inr ⟨rfl, by (repeat (first | exact hR62 | refine Rj.i ?_ rfl | refine Rj.a ?_ rfl | refine Rj.m ?_ | refine Rj.s ?_ (by decide) | refine Rj.o1 ?_ (by first | lia | (dsimp only [Nat.beq, gI_sI, gI_sL, gI_sA, gI_sM, gL_sI, gL_sL, gL_sA, gL_sM, aI_sI, aI_sL, aI_sA, aI_sM, aL_sI, aL_sL, aL_sA, aL_sM]; lia)) | refine Rj.o2 ?_ | refine Rj.f1 ?_ (by first | lia | (dsimp only [Nat.beq, gI_sI, gI_sL, gI_sA, gI_sM, gL_sI, gL_sL, gL_sA, gL_sM, aI_sI, aI_sL, aI_sA, aI_sM, aL_sI, aL_sL, aL_sA, aL_sM]; lia)) | refine Rj.f2 ?_ | refine Rj.fs ?_))⟩⟩
    · dsimp only [Option.toList, List.cons_append, List.nil_append, Nat.beq, gI_sI, gI_sL, gI_sA, gI_sM, gL_sI, gL_sL, gL_sA, gL_sM, aI_sI, aI_sL, aI_sA, aI_sM, aL_sI, aL_sL, aL_sA, aL_sM]
      try dsimp only [Nat.beq, gI_sI, gI_sL, gI_sA, gI_sM, gL_sI, gL_sL, gL_sA, gL_sM, aI_sI, aI_sL, aI_sA, aI_sM, aL_sI, aL_sL, aL_sA, aL_sM] at hf2
      try simp only [hR.e2, hR.e14, hR.e15, hR.e17, hR.e18, hR.e36, hR.e42, hR.e49, hR.e62, hR.a3, hR.a6, hR.a51, hR.a19, hR.a63, hR.a64, hR.hp]
      refine ⟨⟨trivial, trivial⟩, fun w63 τ63 w63' τ63' hq63 => ?_⟩
      obtain ⟨⟨rfl, hE63⟩, rfl, hF63⟩ := hq63
      have hR63 : Rj 1 τ63 τ63' := Rj.em (by (repeat (first | exact hR | refine Rj.i ?_ rfl | refine Rj.a ?_ rfl | refine Rj.m ?_ | refine Rj.s ?_ (by decide) | refine Rj.o1 ?_ (by first | lia | (dsimp only [Nat.beq, gI_sI, gI_sL, gI_sA, gI_sM, gL_sI, gL_sL, gL_sA, gL_sM, aI_sI, aI_sL, aI_sA, aI_sM, aL_sI, aL_sL, aL_sA, aL_sM]; lia)) | refine Rj.o2 ?_ | refine Rj.f1 ?_ (by first | lia | (dsimp only [Nat.beq, gI_sI, gI_sL, gI_sA, gI_sM, gL_sI, gL_sL, gL_sA, gL_sM, aI_sI, aI_sL, aI_sA, aI_sM, aL_sI, aL_sL, aL_sA, aL_sM]; lia)) | refine Rj.f2 ?_ | refine Rj.fs ?_))) hE63 hF63 (by first | exact fun _ => rfl | exact fun q => absurd q (by decide))
      have hp63 := hE63.1 14 (by decide)
      have ho63 := hE63.1 29 (by decide)
      have hh63 := hE63.1 62 (by decide)
      have hg63 := hE63.1 49 (by decide)
      have hw63 := hE63.1 34 (by decide)
      have hv63 := hF63.1 34 (by decide)
      have ht63 := hE63.2.2.2.2.1 3 (by decide)
      try dsimp only [Nat.beq, gI_sI, gI_sL, gI_sA, gI_sM, gL_sI, gL_sL, gL_sA, gL_sM, aI_sI, aI_sL, aI_sA, aI_sM, aL_sI, aL_sL, aL_sA, aL_sM] at hp63
      try dsimp only [Nat.beq, gI_sI, gI_sL, gI_sA, gI_sM, gL_sI, gL_sL, gL_sA, gL_sM, aI_sI, aI_sL, aI_sA, aI_sM, aL_sI, aL_sL, aL_sA, aL_sM] at ho63
      try dsimp only [Nat.beq, gI_sI, gI_sL, gI_sA, gI_sM, gL_sI, gL_sL, gL_sA, gL_sM, aI_sI, aI_sL, aI_sA, aI_sM, aL_sI, aL_sL, aL_sA, aL_sM] at hh63
      try dsimp only [Nat.beq, gI_sI, gI_sL, gI_sA, gI_sM, gL_sI, gL_sL, gL_sA, gL_sM, aI_sI, aI_sL, aI_sA, aI_sM, aL_sI, aL_sL, aL_sA, aL_sM] at hg63
      try dsimp only [Nat.beq, gI_sI, gI_sL, gI_sA, gI_sM, gL_sI, gL_sL, gL_sA, gL_sM, aI_sI, aI_sL, aI_sA, aI_sM, aL_sI, aL_sL, aL_sA, aL_sM] at hw63
      try dsimp only [Nat.beq, gI_sI, gI_sL, gI_sA, gI_sM, gL_sI, gL_sL, gL_sA, gL_sM, aI_sI, aI_sL, aI_sA, aI_sM, aL_sI, aL_sL, aL_sA, aL_sM] at hv63
      try dsimp only [Nat.beq, gI_sI, gI_sL, gI_sA, gI_sM, gL_sI, gL_sL, gL_sA, gL_sM, aI_sI, aI_sL, aI_sA, aI_sM, aL_sI, aL_sL, aL_sA, aL_sM] at ht63
      have hz63 := congrFun ht63 (gI τ63 14).toNatClampNeg
      dsimp only [Option.toList, List.cons_append, List.nil_append, Nat.beq, gI_sI, gI_sL, gI_sA, gI_sM, gL_sI, gL_sL, gL_sA, gL_sM, aI_sI, aI_sL, aI_sA, aI_sM, aL_sI, aL_sL, aL_sA, aL_sM]
      try simp only [hR63.e2, hR63.e14, hR63.e15, hR63.e17, hR63.e18, hR63.e36, hR63.e42, hR63.e49, hR63.e62, hR63.a3, hR63.a6, hR63.a51, hR63.a19, hR63.a63, hR63.a64, hR63.hp, hR.e18]
      refine ⟨⟨(Rj.w (md := 1) (by (repeat (first | exact hR63 | refine Rj.i ?_ rfl | refine Rj.a ?_ rfl | refine Rj.m ?_ | refine Rj.s ?_ (by decide) | refine Rj.o1 ?_ (by first | lia | (dsimp only [Nat.beq, gI_sI, gI_sL, gI_sA, gI_sM, gL_sI, gL_sL, gL_sA, gL_sM, aI_sI, aI_sL, aI_sA, aI_sM, aL_sI, aL_sL, aL_sA, aL_sM]; lia)) | refine Rj.o2 ?_ | refine Rj.f1 ?_ (by first | lia | (dsimp only [Nat.beq, gI_sI, gI_sL, gI_sA, gI_sM, gL_sI, gL_sL, gL_sA, gL_sM, aI_sI, aI_sL, aI_sA, aI_sM, aL_sI, aL_sL, aL_sA, aL_sM]; lia)) | refine Rj.f2 ?_ | refine Rj.fs ?_)))), by lia, by lia⟩, fun w64 τ64 w64' τ64' hq64 => ?_⟩
      obtain ⟨b64, rfl, rfl, hb64⟩ := hq64
      rcases hb64 with rfl | ⟨rfl, hr64, hk64, hx64⟩
      · dsimp only [Option.toList, List.cons_append, List.nil_append, Nat.beq, gI_sI, gI_sL, gI_sA, gI_sM, gL_sI, gL_sL, gL_sA, gL_sM, aI_sI, aI_sL, aI_sA, aI_sM, aL_sI, aL_sL, aL_sA, aL_sM]
        try simp only [hR63.e2, hR63.e14, hR63.e15, hR63.e17, hR63.e18, hR63.e36, hR63.e42, hR63.e49, hR63.e62, hR63.a3, hR63.a6, hR63.a51, hR63.a19, hR63.a63, hR63.a64, hR63.hp, hR.e18]
        refine ⟨fun h65 => absurd h65 (by decide), fun h65 => ⟨(by exact h65), ?_⟩⟩
        clear h65
        refine hB _ _ _ _ _ _ _ _ (fun m66 hm66 => ?_)
        dsimp only [jgo, jwp, jst, jct, rfd, Bgives, Nat.beq, lv_args, rlk, rs1, rs2, rdl, rky, rcd, rno, rsw, Value.category, List.filter, List.take, List.drop, List.reverse, List.reverseAux, List.cons_append, List.nil_append, Option.toList, Int.toNat, Int.reduceToNat, if_pos, if_neg, reduceIte, ↓reduceIte, Nat.reduceAdd, Nat.reduceEqDiff, Nat.reduceBEq, beq_self_eq_true, Bool.not_true, Bool.not_false, Bool.and_true, Bool.and_false, Bool.true_and, Bool.false_and, gI_sI, gI_sL, gI_sA, gI_sM, gL_sI, gL_sL, gL_sA, gL_sM, aI_sI, aI_sL, aI_sA, aI_sM, aL_sI, aL_sL, aL_sA, aL_sM, Bgives_0, Bgives_28, Bgives_30, Bgives_34, Bgives_43, Bgives_47, Bgives_48, Bgives_55, Bgives_62, Bgives_64, Bgives_69, Bgives_74, Bgives_76, Bgives_81, Bgives_85, Bgives_86, Bgives_103, Bgives_110, Bgives_112, Bgives_122, Bgives_124, oi_0, oi_1, oi_17, oi_20, oi_45, oi_48, oi_49, oi_59, oi_m2, Pu_emit, Pj_expression, Pj_finished, Pj_isSign, Pj_isWord, Pj_take, Pj_want]; try dsimp only
        try simp only [hR63.e2, hR63.e14, hR63.e15, hR63.e17, hR63.e18, hR63.e36, hR63.e42, hR63.e49, hR63.e62, hR63.a3, hR63.a6, hR63.a51, hR63.a19, hR63.a63, hR63.a64, hR63.hp, hR.e18]
        unfold Qj_gives
        try dsimp only
        exact ⟨_, rfl, rfl, Or.inl rfl⟩
      · dsimp only [Option.toList, List.cons_append, List.nil_append, Nat.beq, gI_sI, gI_sL, gI_sA, gI_sM, gL_sI, gL_sL, gL_sA, gL_sM, aI_sI, aI_sL, aI_sA, aI_sM, aL_sI, aL_sL, aL_sA, aL_sM]
        have hR64 : Rj 1 τ64 τ64' := hr64 _ (by (repeat (first | exact hR63 | refine Rj.i ?_ rfl | refine Rj.a ?_ rfl | refine Rj.m ?_ | refine Rj.s ?_ (by decide) | refine Rj.o1 ?_ (by first | lia | (dsimp only [Nat.beq, gI_sI, gI_sL, gI_sA, gI_sM, gL_sI, gL_sL, gL_sA, gL_sM, aI_sI, aI_sL, aI_sA, aI_sM, aL_sI, aL_sL, aL_sA, aL_sM]; lia)) | refine Rj.o2 ?_ | refine Rj.f1 ?_ (by first | lia | (dsimp only [Nat.beq, gI_sI, gI_sL, gI_sA, gI_sM, gL_sI, gL_sL, gL_sA, gL_sM, aI_sI, aI_sL, aI_sA, aI_sM, aL_sI, aL_sL, aL_sA, aL_sM]; lia)) | refine Rj.f2 ?_ | refine Rj.fs ?_)))
        have ht64 := hk64.2 3 rfl
        have hc64 := hk64.1 2 rfl
        try dsimp only [Nat.beq, gI_sI, gI_sL, gI_sA, gI_sM, gL_sI, gL_sL, gL_sA, gL_sM, aI_sI, aI_sL, aI_sA, aI_sM, aL_sI, aL_sL, aL_sA, aL_sM] at hx64
        try dsimp only [Nat.beq, gI_sI, gI_sL, gI_sA, gI_sM, gL_sI, gL_sL, gL_sA, gL_sM, aI_sI, aI_sL, aI_sA, aI_sM, aL_sI, aL_sL, aL_sA, aL_sM] at ht64
        try dsimp only [Nat.beq, gI_sI, gI_sL, gI_sA, gI_sM, gL_sI, gL_sL, gL_sA, gL_sM, aI_sI, aI_sL, aI_sA, aI_sM, aL_sI, aL_sL, aL_sA, aL_sM] at hc64
        have hh64 := hk64.1 62 rfl
        have hg64 := hk64.1 49 rfl
        try dsimp only [Nat.beq, gI_sI, gI_sL, gI_sA, gI_sM, gL_sI, gL_sL, gL_sA, gL_sM, aI_sI, aI_sL, aI_sA, aI_sM, aL_sI, aL_sL, aL_sA, aL_sM] at hh64
        try dsimp only [Nat.beq, gI_sI, gI_sL, gI_sA, gI_sM, gL_sI, gL_sL, gL_sA, gL_sM, aI_sI, aI_sL, aI_sA, aI_sM, aL_sI, aL_sL, aL_sA, aL_sM] at hg64
        have hz64 := congrFun ht64 (gI τ64 14).toNatClampNeg
        try simp only [hR64.e2, hR64.e14, hR64.e15, hR64.e17, hR64.e18, hR64.e36, hR64.e42, hR64.e49, hR64.e62, hR64.a3, hR64.a6, hR64.a51, hR64.a19, hR64.a63, hR64.a64, hR64.hp, hR.e18]
        refine ⟨fun h67 => ⟨(by exact h67), ?_⟩, fun h67 => absurd h67 (by decide)⟩
        clear h67
        refine hB _ _ _ _ _ _ _ _ (fun m68 hm68 => ?_)
        dsimp only [jgo, jwp, jst, jct, rfd, Bgives, Nat.beq, lv_args, rlk, rs1, rs2, rdl, rky, rcd, rno, rsw, Value.category, List.filter, List.take, List.drop, List.reverse, List.reverseAux, List.cons_append, List.nil_append, Option.toList, Int.toNat, Int.reduceToNat, if_pos, if_neg, reduceIte, ↓reduceIte, Nat.reduceAdd, Nat.reduceEqDiff, Nat.reduceBEq, beq_self_eq_true, Bool.not_true, Bool.not_false, Bool.and_true, Bool.and_false, Bool.true_and, Bool.false_and, gI_sI, gI_sL, gI_sA, gI_sM, gL_sI, gL_sL, gL_sA, gL_sM, aI_sI, aI_sL, aI_sA, aI_sM, aL_sI, aL_sL, aL_sA, aL_sM, Bgives_0, Bgives_28, Bgives_30, Bgives_34, Bgives_43, Bgives_47, Bgives_48, Bgives_55, Bgives_62, Bgives_64, Bgives_69, Bgives_74, Bgives_76, Bgives_81, Bgives_85, Bgives_86, Bgives_103, Bgives_110, Bgives_112, Bgives_122, Bgives_124, oi_0, oi_1, oi_17, oi_20, oi_45, oi_48, oi_49, oi_59, oi_m2, Pu_emit, Pj_expression, Pj_finished, Pj_isSign, Pj_isWord, Pj_take, Pj_want]; try dsimp only
        try simp only [hR64.e2, hR64.e14, hR64.e15, hR64.e17, hR64.e18, hR64.e36, hR64.e42, hR64.e49, hR64.e62, hR64.a3, hR64.a6, hR64.a51, hR64.a19, hR64.a63, hR64.a64, hR64.hp, hR.e18]
        refine ⟨fun h69 => ⟨(by exact h69), ?_⟩, fun h69 => absurd h69 (by decide)⟩
        clear h69
        refine hB _ _ _ _ _ _ _ _ (fun m70 hm70 => ?_)
        dsimp only [jgo, jwp, jst, jct, rfd, Bgives, Nat.beq, lv_args, rlk, rs1, rs2, rdl, rky, rcd, rno, rsw, Value.category, List.filter, List.take, List.drop, List.reverse, List.reverseAux, List.cons_append, List.nil_append, Option.toList, Int.toNat, Int.reduceToNat, if_pos, if_neg, reduceIte, ↓reduceIte, Nat.reduceAdd, Nat.reduceEqDiff, Nat.reduceBEq, beq_self_eq_true, Bool.not_true, Bool.not_false, Bool.and_true, Bool.and_false, Bool.true_and, Bool.false_and, gI_sI, gI_sL, gI_sA, gI_sM, gL_sI, gL_sL, gL_sA, gL_sM, aI_sI, aI_sL, aI_sA, aI_sM, aL_sI, aL_sL, aL_sA, aL_sM, Bgives_0, Bgives_28, Bgives_30, Bgives_34, Bgives_43, Bgives_47, Bgives_48, Bgives_55, Bgives_62, Bgives_64, Bgives_69, Bgives_74, Bgives_76, Bgives_81, Bgives_85, Bgives_86, Bgives_103, Bgives_110, Bgives_112, Bgives_122, Bgives_124, oi_0, oi_1, oi_17, oi_20, oi_45, oi_48, oi_49, oi_59, oi_m2, Pu_emit, Pj_expression, Pj_finished, Pj_isSign, Pj_isWord, Pj_take, Pj_want]; try dsimp only
        try simp only [hR64.e2, hR64.e14, hR64.e15, hR64.e17, hR64.e18, hR64.e36, hR64.e42, hR64.e49, hR64.e62, hR64.a3, hR64.a6, hR64.a51, hR64.a19, hR64.a63, hR64.a64, hR64.hp, hR.e18]
        refine hB _ _ _ _ _ _ _ _ (fun m71 hm71 => ?_)
        dsimp only [jgo, jwp, jst, jct, rfd, Bgives, Nat.beq, lv_args, rlk, rs1, rs2, rdl, rky, rcd, rno, rsw, Value.category, List.filter, List.take, List.drop, List.reverse, List.reverseAux, List.cons_append, List.nil_append, Option.toList, Int.toNat, Int.reduceToNat, if_pos, if_neg, reduceIte, ↓reduceIte, Nat.reduceAdd, Nat.reduceEqDiff, Nat.reduceBEq, beq_self_eq_true, Bool.not_true, Bool.not_false, Bool.and_true, Bool.and_false, Bool.true_and, Bool.false_and, gI_sI, gI_sL, gI_sA, gI_sM, gL_sI, gL_sL, gL_sA, gL_sM, aI_sI, aI_sL, aI_sA, aI_sM, aL_sI, aL_sL, aL_sA, aL_sM, Bgives_0, Bgives_28, Bgives_30, Bgives_34, Bgives_43, Bgives_47, Bgives_48, Bgives_55, Bgives_62, Bgives_64, Bgives_69, Bgives_74, Bgives_76, Bgives_81, Bgives_85, Bgives_86, Bgives_103, Bgives_110, Bgives_112, Bgives_122, Bgives_124, oi_0, oi_1, oi_17, oi_20, oi_45, oi_48, oi_49, oi_59, oi_m2, Pu_emit, Pj_expression, Pj_finished, Pj_isSign, Pj_isWord, Pj_take, Pj_want]; try dsimp only
        try simp only [hR64.e2, hR64.e14, hR64.e15, hR64.e17, hR64.e18, hR64.e36, hR64.e42, hR64.e49, hR64.e62, hR64.a3, hR64.a6, hR64.a51, hR64.a19, hR64.a63, hR64.a64, hR64.hp, hR.e18]
        refine ⟨fun h72 => absurd h72 (by decide), fun h72 => ⟨(by exact h72), ?_⟩⟩
        clear h72
        refine hB _ _ _ _ _ _ _ _ (fun m73 hm73 => ?_)
        dsimp only [jgo, jwp, jst, jct, rfd, Bgives, Nat.beq, lv_args, rlk, rs1, rs2, rdl, rky, rcd, rno, rsw, Value.category, List.filter, List.take, List.drop, List.reverse, List.reverseAux, List.cons_append, List.nil_append, Option.toList, Int.toNat, Int.reduceToNat, if_pos, if_neg, reduceIte, ↓reduceIte, Nat.reduceAdd, Nat.reduceEqDiff, Nat.reduceBEq, beq_self_eq_true, Bool.not_true, Bool.not_false, Bool.and_true, Bool.and_false, Bool.true_and, Bool.false_and, gI_sI, gI_sL, gI_sA, gI_sM, gL_sI, gL_sL, gL_sA, gL_sM, aI_sI, aI_sL, aI_sA, aI_sM, aL_sI, aL_sL, aL_sA, aL_sM, Bgives_0, Bgives_28, Bgives_30, Bgives_34, Bgives_43, Bgives_47, Bgives_48, Bgives_55, Bgives_62, Bgives_64, Bgives_69, Bgives_74, Bgives_76, Bgives_81, Bgives_85, Bgives_86, Bgives_103, Bgives_110, Bgives_112, Bgives_122, Bgives_124, oi_0, oi_1, oi_17, oi_20, oi_45, oi_48, oi_49, oi_59, oi_m2, Pu_emit, Pj_expression, Pj_finished, Pj_isSign, Pj_isWord, Pj_take, Pj_want]; try dsimp only
        try simp only [hR64.e2, hR64.e14, hR64.e15, hR64.e17, hR64.e18, hR64.e36, hR64.e42, hR64.e49, hR64.e62, hR64.a3, hR64.a6, hR64.a51, hR64.a19, hR64.a63, hR64.a64, hR64.hp, hR.e18]
        refine ⟨(by (repeat (first | exact hR64 | refine Rj.i ?_ rfl | refine Rj.a ?_ rfl | refine Rj.m ?_ | refine Rj.s ?_ (by decide) | refine Rj.o1 ?_ (by first | lia | (dsimp only [Nat.beq, gI_sI, gI_sL, gI_sA, gI_sM, gL_sI, gL_sL, gL_sA, gL_sM, aI_sI, aI_sL, aI_sA, aI_sM, aL_sI, aL_sL, aL_sA, aL_sM]; lia)) | refine Rj.o2 ?_ | refine Rj.f1 ?_ (by first | lia | (dsimp only [Nat.beq, gI_sI, gI_sL, gI_sA, gI_sM, gL_sI, gL_sL, gL_sA, gL_sM, aI_sI, aI_sL, aI_sA, aI_sM, aL_sI, aL_sL, aL_sA, aL_sM]; lia)) | refine Rj.f2 ?_ | refine Rj.fs ?_))), fun w74 τ74 w74' τ74' hq74 => ?_⟩
        obtain ⟨b74, rfl, rfl, hb74⟩ := hq74
        rcases hb74 with rfl | ⟨rfl, hR74, hk74⟩
        · dsimp only [Option.toList, List.cons_append, List.nil_append, Nat.beq, gI_sI, gI_sL, gI_sA, gI_sM, gL_sI, gL_sL, gL_sA, gL_sM, aI_sI, aI_sL, aI_sA, aI_sM, aL_sI, aL_sL, aL_sA, aL_sM]
          try simp only [hR64.e2, hR64.e14, hR64.e15, hR64.e17, hR64.e18, hR64.e36, hR64.e42, hR64.e49, hR64.e62, hR64.a3, hR64.a6, hR64.a51, hR64.a19, hR64.a63, hR64.a64, hR64.hp, hR.e18]
          refine ⟨fun h75 => absurd h75 (by decide), fun h75 => ⟨(by exact h75), ?_⟩⟩
          clear h75
          refine hB _ _ _ _ _ _ _ _ (fun m76 hm76 => ?_)
          dsimp only [jgo, jwp, jst, jct, rfd, Bgives, Nat.beq, lv_args, rlk, rs1, rs2, rdl, rky, rcd, rno, rsw, Value.category, List.filter, List.take, List.drop, List.reverse, List.reverseAux, List.cons_append, List.nil_append, Option.toList, Int.toNat, Int.reduceToNat, if_pos, if_neg, reduceIte, ↓reduceIte, Nat.reduceAdd, Nat.reduceEqDiff, Nat.reduceBEq, beq_self_eq_true, Bool.not_true, Bool.not_false, Bool.and_true, Bool.and_false, Bool.true_and, Bool.false_and, gI_sI, gI_sL, gI_sA, gI_sM, gL_sI, gL_sL, gL_sA, gL_sM, aI_sI, aI_sL, aI_sA, aI_sM, aL_sI, aL_sL, aL_sA, aL_sM, Bgives_0, Bgives_28, Bgives_30, Bgives_34, Bgives_43, Bgives_47, Bgives_48, Bgives_55, Bgives_62, Bgives_64, Bgives_69, Bgives_74, Bgives_76, Bgives_81, Bgives_85, Bgives_86, Bgives_103, Bgives_110, Bgives_112, Bgives_122, Bgives_124, oi_0, oi_1, oi_17, oi_20, oi_45, oi_48, oi_49, oi_59, oi_m2, Pu_emit, Pj_expression, Pj_finished, Pj_isSign, Pj_isWord, Pj_take, Pj_want]; try dsimp only
          try simp only [hR64.e2, hR64.e14, hR64.e15, hR64.e17, hR64.e18, hR64.e36, hR64.e42, hR64.e49, hR64.e62, hR64.a3, hR64.a6, hR64.a51, hR64.a19, hR64.a63, hR64.a64, hR64.hp, hR.e18]
          unfold Qj_gives
          try dsimp only
          exact ⟨_, rfl, rfl, Or.inl rfl⟩
        · dsimp only [Option.toList, List.cons_append, List.nil_append, Nat.beq, gI_sI, gI_sL, gI_sA, gI_sM, gL_sI, gL_sL, gL_sA, gL_sM, aI_sI, aI_sL, aI_sA, aI_sM, aL_sI, aL_sL, aL_sA, aL_sM]
          have hh74 := hk74.1 62 rfl
          have hg74 := hk74.1 49 rfl
          try dsimp only [Nat.beq, gI_sI, gI_sL, gI_sA, gI_sM, gL_sI, gL_sL, gL_sA, gL_sM, aI_sI, aI_sL, aI_sA, aI_sM, aL_sI, aL_sL, aL_sA, aL_sM] at hh74
          try dsimp only [Nat.beq, gI_sI, gI_sL, gI_sA, gI_sM, gL_sI, gL_sL, gL_sA, gL_sM, aI_sI, aI_sL, aI_sA, aI_sM, aL_sI, aL_sL, aL_sA, aL_sM] at hg74
          try simp only [hR74.e2, hR74.e14, hR74.e15, hR74.e17, hR74.e18, hR74.e36, hR74.e42, hR74.e49, hR74.e62, hR74.a3, hR74.a6, hR74.a51, hR74.a19, hR74.a63, hR74.a64, hR74.hp, hR.e18]
          refine ⟨fun h77 => ⟨(by exact h77), ?_⟩, fun h77 => absurd h77 (by decide)⟩
          clear h77
          refine hB _ _ _ _ _ _ _ _ (fun m78 hm78 => ?_)
          dsimp only [jgo, jwp, jst, jct, rfd, Bgives, Nat.beq, lv_args, rlk, rs1, rs2, rdl, rky, rcd, rno, rsw, Value.category, List.filter, List.take, List.drop, List.reverse, List.reverseAux, List.cons_append, List.nil_append, Option.toList, Int.toNat, Int.reduceToNat, if_pos, if_neg, reduceIte, ↓reduceIte, Nat.reduceAdd, Nat.reduceEqDiff, Nat.reduceBEq, beq_self_eq_true, Bool.not_true, Bool.not_false, Bool.and_true, Bool.and_false, Bool.true_and, Bool.false_and, gI_sI, gI_sL, gI_sA, gI_sM, gL_sI, gL_sL, gL_sA, gL_sM, aI_sI, aI_sL, aI_sA, aI_sM, aL_sI, aL_sL, aL_sA, aL_sM, Bgives_0, Bgives_28, Bgives_30, Bgives_34, Bgives_43, Bgives_47, Bgives_48, Bgives_55, Bgives_62, Bgives_64, Bgives_69, Bgives_74, Bgives_76, Bgives_81, Bgives_85, Bgives_86, Bgives_103, Bgives_110, Bgives_112, Bgives_122, Bgives_124, oi_0, oi_1, oi_17, oi_20, oi_45, oi_48, oi_49, oi_59, oi_m2, Pu_emit, Pj_expression, Pj_finished, Pj_isSign, Pj_isWord, Pj_take, Pj_want]; try dsimp only
          try simp only [hR74.e2, hR74.e14, hR74.e15, hR74.e17, hR74.e18, hR74.e36, hR74.e42, hR74.e49, hR74.e62, hR74.a3, hR74.a6, hR74.a51, hR74.a19, hR74.a63, hR74.a64, hR74.hp, hR.e18]
          refine ⟨fun h79 => absurd h79 (by decide), fun h79 => ⟨(by exact h79), ?_⟩⟩
          clear h79
          refine hB _ _ _ _ _ _ _ _ (fun m80 hm80 => ?_)
          dsimp only [jgo, jwp, jst, jct, rfd, Bgives, Nat.beq, lv_args, rlk, rs1, rs2, rdl, rky, rcd, rno, rsw, Value.category, List.filter, List.take, List.drop, List.reverse, List.reverseAux, List.cons_append, List.nil_append, Option.toList, Int.toNat, Int.reduceToNat, if_pos, if_neg, reduceIte, ↓reduceIte, Nat.reduceAdd, Nat.reduceEqDiff, Nat.reduceBEq, beq_self_eq_true, Bool.not_true, Bool.not_false, Bool.and_true, Bool.and_false, Bool.true_and, Bool.false_and, gI_sI, gI_sL, gI_sA, gI_sM, gL_sI, gL_sL, gL_sA, gL_sM, aI_sI, aI_sL, aI_sA, aI_sM, aL_sI, aL_sL, aL_sA, aL_sM, Bgives_0, Bgives_28, Bgives_30, Bgives_34, Bgives_43, Bgives_47, Bgives_48, Bgives_55, Bgives_62, Bgives_64, Bgives_69, Bgives_74, Bgives_76, Bgives_81, Bgives_85, Bgives_86, Bgives_103, Bgives_110, Bgives_112, Bgives_122, Bgives_124, oi_0, oi_1, oi_17, oi_20, oi_45, oi_48, oi_49, oi_59, oi_m2, Pu_emit, Pj_expression, Pj_finished, Pj_isSign, Pj_isWord, Pj_take, Pj_want]; try dsimp only
          try simp only [hR74.e2, hR74.e14, hR74.e15, hR74.e17, hR74.e18, hR74.e36, hR74.e42, hR74.e49, hR74.e62, hR74.a3, hR74.a6, hR74.a51, hR74.a19, hR74.a63, hR74.a64, hR74.hp, hR.e18]
          refine hB _ _ _ _ _ _ _ _ (fun m81 hm81 => ?_)
          dsimp only [jgo, jwp, jst, jct, rfd, Bgives, Nat.beq, lv_args, rlk, rs1, rs2, rdl, rky, rcd, rno, rsw, Value.category, List.filter, List.take, List.drop, List.reverse, List.reverseAux, List.cons_append, List.nil_append, Option.toList, Int.toNat, Int.reduceToNat, if_pos, if_neg, reduceIte, ↓reduceIte, Nat.reduceAdd, Nat.reduceEqDiff, Nat.reduceBEq, beq_self_eq_true, Bool.not_true, Bool.not_false, Bool.and_true, Bool.and_false, Bool.true_and, Bool.false_and, gI_sI, gI_sL, gI_sA, gI_sM, gL_sI, gL_sL, gL_sA, gL_sM, aI_sI, aI_sL, aI_sA, aI_sM, aL_sI, aL_sL, aL_sA, aL_sM, Bgives_0, Bgives_28, Bgives_30, Bgives_34, Bgives_43, Bgives_47, Bgives_48, Bgives_55, Bgives_62, Bgives_64, Bgives_69, Bgives_74, Bgives_76, Bgives_81, Bgives_85, Bgives_86, Bgives_103, Bgives_110, Bgives_112, Bgives_122, Bgives_124, oi_0, oi_1, oi_17, oi_20, oi_45, oi_48, oi_49, oi_59, oi_m2, Pu_emit, Pj_expression, Pj_finished, Pj_isSign, Pj_isWord, Pj_take, Pj_want]; try dsimp only
          try simp only [hR74.e2, hR74.e14, hR74.e15, hR74.e17, hR74.e18, hR74.e36, hR74.e42, hR74.e49, hR74.e62, hR74.a3, hR74.a6, hR74.a51, hR74.a19, hR74.a63, hR74.a64, hR74.hp, hR.e18]
          refine ⟨fun h82 => absurd h82 (by decide), fun h82 => ⟨(by exact h82), ?_⟩⟩
          clear h82
          refine hB _ _ _ _ _ _ _ _ (fun m83 hm83 => ?_)
          dsimp only [jgo, jwp, jst, jct, rfd, Bgives, Nat.beq, lv_args, rlk, rs1, rs2, rdl, rky, rcd, rno, rsw, Value.category, List.filter, List.take, List.drop, List.reverse, List.reverseAux, List.cons_append, List.nil_append, Option.toList, Int.toNat, Int.reduceToNat, if_pos, if_neg, reduceIte, ↓reduceIte, Nat.reduceAdd, Nat.reduceEqDiff, Nat.reduceBEq, beq_self_eq_true, Bool.not_true, Bool.not_false, Bool.and_true, Bool.and_false, Bool.true_and, Bool.false_and, gI_sI, gI_sL, gI_sA, gI_sM, gL_sI, gL_sL, gL_sA, gL_sM, aI_sI, aI_sL, aI_sA, aI_sM, aL_sI, aL_sL, aL_sA, aL_sM, Bgives_0, Bgives_28, Bgives_30, Bgives_34, Bgives_43, Bgives_47, Bgives_48, Bgives_55, Bgives_62, Bgives_64, Bgives_69, Bgives_74, Bgives_76, Bgives_81, Bgives_85, Bgives_86, Bgives_103, Bgives_110, Bgives_112, Bgives_122, Bgives_124, oi_0, oi_1, oi_17, oi_20, oi_45, oi_48, oi_49, oi_59, oi_m2, Pu_emit, Pj_expression, Pj_finished, Pj_isSign, Pj_isWord, Pj_take, Pj_want]; try dsimp only
          try simp only [hR74.e2, hR74.e14, hR74.e15, hR74.e17, hR74.e18, hR74.e36, hR74.e42, hR74.e49, hR74.e62, hR74.a3, hR74.a6, hR74.a51, hR74.a19, hR74.a63, hR74.a64, hR74.hp, hR.e18]
          refine hB _ _ _ _ _ _ _ _ (fun m84 hm84 => ?_)
          dsimp only [jgo, jwp, jst, jct, rfd, Bgives, Nat.beq, lv_args, rlk, rs1, rs2, rdl, rky, rcd, rno, rsw, Value.category, List.filter, List.take, List.drop, List.reverse, List.reverseAux, List.cons_append, List.nil_append, Option.toList, Int.toNat, Int.reduceToNat, if_pos, if_neg, reduceIte, ↓reduceIte, Nat.reduceAdd, Nat.reduceEqDiff, Nat.reduceBEq, beq_self_eq_true, Bool.not_true, Bool.not_false, Bool.and_true, Bool.and_false, Bool.true_and, Bool.false_and, gI_sI, gI_sL, gI_sA, gI_sM, gL_sI, gL_sL, gL_sA, gL_sM, aI_sI, aI_sL, aI_sA, aI_sM, aL_sI, aL_sL, aL_sA, aL_sM, Bgives_0, Bgives_28, Bgives_30, Bgives_34, Bgives_43, Bgives_47, Bgives_48, Bgives_55, Bgives_62, Bgives_64, Bgives_69, Bgives_74, Bgives_76, Bgives_81, Bgives_85, Bgives_86, Bgives_103, Bgives_110, Bgives_112, Bgives_122, Bgives_124, oi_0, oi_1, oi_17, oi_20, oi_45, oi_48, oi_49, oi_59, oi_m2, Pu_emit, Pj_expression, Pj_finished, Pj_isSign, Pj_isWord, Pj_take, Pj_want]; try dsimp only
          try simp only [hR74.e2, hR74.e14, hR74.e15, hR74.e17, hR74.e18, hR74.e36, hR74.e42, hR74.e49, hR74.e62, hR74.a3, hR74.a6, hR74.a51, hR74.a19, hR74.a63, hR74.a64, hR74.hp, hR.e18]
          refine ⟨⟨trivial, trivial⟩, fun w85 τ85 w85' τ85' hq85 => ?_⟩
          obtain ⟨⟨rfl, hE85⟩, rfl, hF85⟩ := hq85
          have hR85 : Rj 1 τ85 τ85' := Rj.em (by (repeat (first | exact hR74 | refine Rj.i ?_ rfl | refine Rj.a ?_ rfl | refine Rj.m ?_ | refine Rj.s ?_ (by decide) | refine Rj.o1 ?_ (by first | lia | (dsimp only [Nat.beq, gI_sI, gI_sL, gI_sA, gI_sM, gL_sI, gL_sL, gL_sA, gL_sM, aI_sI, aI_sL, aI_sA, aI_sM, aL_sI, aL_sL, aL_sA, aL_sM]; lia)) | refine Rj.o2 ?_ | refine Rj.f1 ?_ (by first | lia | (dsimp only [Nat.beq, gI_sI, gI_sL, gI_sA, gI_sM, gL_sI, gL_sL, gL_sA, gL_sM, aI_sI, aI_sL, aI_sA, aI_sM, aL_sI, aL_sL, aL_sA, aL_sM]; lia)) | refine Rj.f2 ?_ | refine Rj.fs ?_))) hE85 hF85 (by first | exact fun _ => rfl | exact fun q => absurd q (by decide))
          have hp85 := hE85.1 14 (by decide)
          have ho85 := hE85.1 29 (by decide)
          have hh85 := hE85.1 62 (by decide)
          have hg85 := hE85.1 49 (by decide)
          have hw85 := hE85.1 34 (by decide)
          have hv85 := hF85.1 34 (by decide)
          have ht85 := hE85.2.2.2.2.1 3 (by decide)
          try dsimp only [Nat.beq, gI_sI, gI_sL, gI_sA, gI_sM, gL_sI, gL_sL, gL_sA, gL_sM, aI_sI, aI_sL, aI_sA, aI_sM, aL_sI, aL_sL, aL_sA, aL_sM] at hp85
          try dsimp only [Nat.beq, gI_sI, gI_sL, gI_sA, gI_sM, gL_sI, gL_sL, gL_sA, gL_sM, aI_sI, aI_sL, aI_sA, aI_sM, aL_sI, aL_sL, aL_sA, aL_sM] at ho85
          try dsimp only [Nat.beq, gI_sI, gI_sL, gI_sA, gI_sM, gL_sI, gL_sL, gL_sA, gL_sM, aI_sI, aI_sL, aI_sA, aI_sM, aL_sI, aL_sL, aL_sA, aL_sM] at hh85
          try dsimp only [Nat.beq, gI_sI, gI_sL, gI_sA, gI_sM, gL_sI, gL_sL, gL_sA, gL_sM, aI_sI, aI_sL, aI_sA, aI_sM, aL_sI, aL_sL, aL_sA, aL_sM] at hg85
          try dsimp only [Nat.beq, gI_sI, gI_sL, gI_sA, gI_sM, gL_sI, gL_sL, gL_sA, gL_sM, aI_sI, aI_sL, aI_sA, aI_sM, aL_sI, aL_sL, aL_sA, aL_sM] at hw85
          try dsimp only [Nat.beq, gI_sI, gI_sL, gI_sA, gI_sM, gL_sI, gL_sL, gL_sA, gL_sM, aI_sI, aI_sL, aI_sA, aI_sM, aL_sI, aL_sL, aL_sA, aL_sM] at hv85
          try dsimp only [Nat.beq, gI_sI, gI_sL, gI_sA, gI_sM, gL_sI, gL_sL, gL_sA, gL_sM, aI_sI, aI_sL, aI_sA, aI_sM, aL_sI, aL_sL, aL_sA, aL_sM] at ht85
          have hz85 := congrFun ht85 (gI τ85 14).toNatClampNeg
          dsimp only [Option.toList, List.cons_append, List.nil_append, Nat.beq, gI_sI, gI_sL, gI_sA, gI_sM, gL_sI, gL_sL, gL_sA, gL_sM, aI_sI, aI_sL, aI_sA, aI_sM, aL_sI, aL_sL, aL_sA, aL_sM]
          try simp only [hR85.e2, hR85.e14, hR85.e15, hR85.e17, hR85.e18, hR85.e36, hR85.e42, hR85.e49, hR85.e62, hR85.a3, hR85.a6, hR85.a51, hR85.a19, hR85.a63, hR85.a64, hR85.hp, hR.e18, hR74.e18]
          refine ⟨fun h86 => absurd h86 (by decide), fun h86 => ⟨(by exact h86), ?_⟩⟩
          clear h86
          refine hB _ _ _ _ _ _ _ _ (fun m87 hm87 => ?_)
          dsimp only [jgo, jwp, jst, jct, rfd, Bgives, Nat.beq, lv_args, rlk, rs1, rs2, rdl, rky, rcd, rno, rsw, Value.category, List.filter, List.take, List.drop, List.reverse, List.reverseAux, List.cons_append, List.nil_append, Option.toList, Int.toNat, Int.reduceToNat, if_pos, if_neg, reduceIte, ↓reduceIte, Nat.reduceAdd, Nat.reduceEqDiff, Nat.reduceBEq, beq_self_eq_true, Bool.not_true, Bool.not_false, Bool.and_true, Bool.and_false, Bool.true_and, Bool.false_and, gI_sI, gI_sL, gI_sA, gI_sM, gL_sI, gL_sL, gL_sA, gL_sM, aI_sI, aI_sL, aI_sA, aI_sM, aL_sI, aL_sL, aL_sA, aL_sM, Bgives_0, Bgives_28, Bgives_30, Bgives_34, Bgives_43, Bgives_47, Bgives_48, Bgives_55, Bgives_62, Bgives_64, Bgives_69, Bgives_74, Bgives_76, Bgives_81, Bgives_85, Bgives_86, Bgives_103, Bgives_110, Bgives_112, Bgives_122, Bgives_124, oi_0, oi_1, oi_17, oi_20, oi_45, oi_48, oi_49, oi_59, oi_m2, Pu_emit, Pj_expression, Pj_finished, Pj_isSign, Pj_isWord, Pj_take, Pj_want]; try dsimp only
          try simp only [hR85.e2, hR85.e14, hR85.e15, hR85.e17, hR85.e18, hR85.e36, hR85.e42, hR85.e49, hR85.e62, hR85.a3, hR85.a6, hR85.a51, hR85.a19, hR85.a63, hR85.a64, hR85.hp, hR.e18, hR74.e18]
          refine hB _ _ _ _ _ _ _ _ (fun m88 hm88 => ?_)
          dsimp only [jgo, jwp, jst, jct, rfd, Bgives, Nat.beq, lv_args, rlk, rs1, rs2, rdl, rky, rcd, rno, rsw, Value.category, List.filter, List.take, List.drop, List.reverse, List.reverseAux, List.cons_append, List.nil_append, Option.toList, Int.toNat, Int.reduceToNat, if_pos, if_neg, reduceIte, ↓reduceIte, Nat.reduceAdd, Nat.reduceEqDiff, Nat.reduceBEq, beq_self_eq_true, Bool.not_true, Bool.not_false, Bool.and_true, Bool.and_false, Bool.true_and, Bool.false_and, gI_sI, gI_sL, gI_sA, gI_sM, gL_sI, gL_sL, gL_sA, gL_sM, aI_sI, aI_sL, aI_sA, aI_sM, aL_sI, aL_sL, aL_sA, aL_sM, Bgives_0, Bgives_28, Bgives_30, Bgives_34, Bgives_43, Bgives_47, Bgives_48, Bgives_55, Bgives_62, Bgives_64, Bgives_69, Bgives_74, Bgives_76, Bgives_81, Bgives_85, Bgives_86, Bgives_103, Bgives_110, Bgives_112, Bgives_122, Bgives_124, oi_0, oi_1, oi_17, oi_20, oi_45, oi_48, oi_49, oi_59, oi_m2, Pu_emit, Pj_expression, Pj_finished, Pj_isSign, Pj_isWord, Pj_take, Pj_want]; try dsimp only
          try simp only [hR85.e2, hR85.e14, hR85.e15, hR85.e17, hR85.e18, hR85.e36, hR85.e42, hR85.e49, hR85.e62, hR85.a3, hR85.a6, hR85.a51, hR85.a19, hR85.a63, hR85.a64, hR85.hp, hR.e18, hR74.e18]
          intro p89 q89
          try simp only [hR85.e2, hR85.e14, hR85.e15, hR85.e17, hR85.e18, hR85.e36, hR85.e42, hR85.e49, hR85.e62, hR85.a3, hR85.a6, hR85.a51, hR85.a19, hR85.a63, hR85.a64, hR85.hp, hR.e18, hR74.e18]
          refine ⟨⟨(Rj.w (md := 1) (by (repeat (first | exact hR85 | refine Rj.i ?_ rfl | refine Rj.a ?_ rfl | refine Rj.m ?_ | refine Rj.s ?_ (by decide) | refine Rj.o1 ?_ (by first | lia | (dsimp only [Nat.beq, gI_sI, gI_sL, gI_sA, gI_sM, gL_sI, gL_sL, gL_sA, gL_sM, aI_sI, aI_sL, aI_sA, aI_sM, aL_sI, aL_sL, aL_sA, aL_sM]; lia)) | refine Rj.o2 ?_ | refine Rj.f1 ?_ (by first | lia | (dsimp only [Nat.beq, gI_sI, gI_sL, gI_sA, gI_sM, gL_sI, gL_sL, gL_sA, gL_sM, aI_sI, aI_sL, aI_sA, aI_sM, aL_sI, aL_sL, aL_sA, aL_sM]; lia)) | refine Rj.f2 ?_ | refine Rj.fs ?_)))), (by first | exact True.intro | rfl)⟩, fun w90 τ90 w90' τ90' hq90 => ?_⟩
          obtain ⟨b90, rfl, rfl, hb90⟩ := hq90
          rcases hb90 with rfl | ⟨rfl, hr90, hk90, hx90⟩
          · dsimp only [Option.toList, List.cons_append, List.nil_append, Nat.beq, gI_sI, gI_sL, gI_sA, gI_sM, gL_sI, gL_sL, gL_sA, gL_sM, aI_sI, aI_sL, aI_sA, aI_sM, aL_sI, aL_sL, aL_sA, aL_sM]
            try simp only [hR85.e2, hR85.e14, hR85.e15, hR85.e17, hR85.e18, hR85.e36, hR85.e42, hR85.e49, hR85.e62, hR85.a3, hR85.a6, hR85.a51, hR85.a19, hR85.a63, hR85.a64, hR85.hp, hR.e18, hR74.e18]
            refine ⟨fun h91 => absurd h91 (by decide), fun h91 => ⟨(by exact h91), ?_⟩⟩
            clear h91
            refine hB _ _ _ _ _ _ _ _ (fun m92 hm92 => ?_)
            dsimp only [jgo, jwp, jst, jct, rfd, Bgives, Nat.beq, lv_args, rlk, rs1, rs2, rdl, rky, rcd, rno, rsw, Value.category, List.filter, List.take, List.drop, List.reverse, List.reverseAux, List.cons_append, List.nil_append, Option.toList, Int.toNat, Int.reduceToNat, if_pos, if_neg, reduceIte, ↓reduceIte, Nat.reduceAdd, Nat.reduceEqDiff, Nat.reduceBEq, beq_self_eq_true, Bool.not_true, Bool.not_false, Bool.and_true, Bool.and_false, Bool.true_and, Bool.false_and, gI_sI, gI_sL, gI_sA, gI_sM, gL_sI, gL_sL, gL_sA, gL_sM, aI_sI, aI_sL, aI_sA, aI_sM, aL_sI, aL_sL, aL_sA, aL_sM, Bgives_0, Bgives_28, Bgives_30, Bgives_34, Bgives_43, Bgives_47, Bgives_48, Bgives_55, Bgives_62, Bgives_64, Bgives_69, Bgives_74, Bgives_76, Bgives_81, Bgives_85, Bgives_86, Bgives_103, Bgives_110, Bgives_112, Bgives_122, Bgives_124, oi_0, oi_1, oi_17, oi_20, oi_45, oi_48, oi_49, oi_59, oi_m2, Pu_emit, Pj_expression, Pj_finished, Pj_isSign, Pj_isWord, Pj_take, Pj_want]; try dsimp only
            try simp only [hR85.e2, hR85.e14, hR85.e15, hR85.e17, hR85.e18, hR85.e36, hR85.e42, hR85.e49, hR85.e62, hR85.a3, hR85.a6, hR85.a51, hR85.a19, hR85.a63, hR85.a64, hR85.hp, hR.e18, hR74.e18]
            unfold Qj_gives
            try dsimp only
            exact ⟨_, rfl, rfl, Or.inl rfl⟩
          · dsimp only [Option.toList, List.cons_append, List.nil_append, Nat.beq, gI_sI, gI_sL, gI_sA, gI_sM, gL_sI, gL_sL, gL_sA, gL_sM, aI_sI, aI_sL, aI_sA, aI_sM, aL_sI, aL_sL, aL_sA, aL_sM]
            have hR90 : Rj 1 τ90 τ90' := hr90 _ (by (repeat (first | exact hR85 | refine Rj.i ?_ rfl | refine Rj.a ?_ rfl | refine Rj.m ?_ | refine Rj.s ?_ (by decide) | refine Rj.o1 ?_ (by first | lia | (dsimp only [Nat.beq, gI_sI, gI_sL, gI_sA, gI_sM, gL_sI, gL_sL, gL_sA, gL_sM, aI_sI, aI_sL, aI_sA, aI_sM, aL_sI, aL_sL, aL_sA, aL_sM]; lia)) | refine Rj.o2 ?_ | refine Rj.f1 ?_ (by first | lia | (dsimp only [Nat.beq, gI_sI, gI_sL, gI_sA, gI_sM, gL_sI, gL_sL, gL_sA, gL_sM, aI_sI, aI_sL, aI_sA, aI_sM, aL_sI, aL_sL, aL_sA, aL_sM]; lia)) | refine Rj.f2 ?_ | refine Rj.fs ?_)))
            have ht90 := hk90.2 3 rfl
            have hc90 := hk90.1 2 rfl
            try dsimp only [Nat.beq, gI_sI, gI_sL, gI_sA, gI_sM, gL_sI, gL_sL, gL_sA, gL_sM, aI_sI, aI_sL, aI_sA, aI_sM, aL_sI, aL_sL, aL_sA, aL_sM] at hx90
            try dsimp only [Nat.beq, gI_sI, gI_sL, gI_sA, gI_sM, gL_sI, gL_sL, gL_sA, gL_sM, aI_sI, aI_sL, aI_sA, aI_sM, aL_sI, aL_sL, aL_sA, aL_sM] at ht90
            try dsimp only [Nat.beq, gI_sI, gI_sL, gI_sA, gI_sM, gL_sI, gL_sL, gL_sA, gL_sM, aI_sI, aI_sL, aI_sA, aI_sM, aL_sI, aL_sL, aL_sA, aL_sM] at hc90
            have hh90 := hk90.1 62 rfl
            have hg90 := hk90.1 49 rfl
            try dsimp only [Nat.beq, gI_sI, gI_sL, gI_sA, gI_sM, gL_sI, gL_sL, gL_sA, gL_sM, aI_sI, aI_sL, aI_sA, aI_sM, aL_sI, aL_sL, aL_sA, aL_sM] at hh90
            try dsimp only [Nat.beq, gI_sI, gI_sL, gI_sA, gI_sM, gL_sI, gL_sL, gL_sA, gL_sM, aI_sI, aI_sL, aI_sA, aI_sM, aL_sI, aL_sL, aL_sA, aL_sM] at hg90
            have hz90 := congrFun ht90 (gI τ90 14).toNatClampNeg
            try simp only [hR90.e2, hR90.e14, hR90.e15, hR90.e17, hR90.e18, hR90.e36, hR90.e42, hR90.e49, hR90.e62, hR90.a3, hR90.a6, hR90.a51, hR90.a19, hR90.a63, hR90.a64, hR90.hp, hR.e18, hR74.e18]
            refine ⟨fun h93 => ⟨(by exact h93), ?_⟩, fun h93 => absurd h93 (by decide)⟩
            clear h93
            refine hB _ _ _ _ _ _ _ _ (fun m94 hm94 => ?_)
            dsimp only [jgo, jwp, jst, jct, rfd, Bgives, Nat.beq, lv_args, rlk, rs1, rs2, rdl, rky, rcd, rno, rsw, Value.category, List.filter, List.take, List.drop, List.reverse, List.reverseAux, List.cons_append, List.nil_append, Option.toList, Int.toNat, Int.reduceToNat, if_pos, if_neg, reduceIte, ↓reduceIte, Nat.reduceAdd, Nat.reduceEqDiff, Nat.reduceBEq, beq_self_eq_true, Bool.not_true, Bool.not_false, Bool.and_true, Bool.and_false, Bool.true_and, Bool.false_and, gI_sI, gI_sL, gI_sA, gI_sM, gL_sI, gL_sL, gL_sA, gL_sM, aI_sI, aI_sL, aI_sA, aI_sM, aL_sI, aL_sL, aL_sA, aL_sM, Bgives_0, Bgives_28, Bgives_30, Bgives_34, Bgives_43, Bgives_47, Bgives_48, Bgives_55, Bgives_62, Bgives_64, Bgives_69, Bgives_74, Bgives_76, Bgives_81, Bgives_85, Bgives_86, Bgives_103, Bgives_110, Bgives_112, Bgives_122, Bgives_124, oi_0, oi_1, oi_17, oi_20, oi_45, oi_48, oi_49, oi_59, oi_m2, Pu_emit, Pj_expression, Pj_finished, Pj_isSign, Pj_isWord, Pj_take, Pj_want]; try dsimp only
            try simp only [hR90.e2, hR90.e14, hR90.e15, hR90.e17, hR90.e18, hR90.e36, hR90.e42, hR90.e49, hR90.e62, hR90.a3, hR90.a6, hR90.a51, hR90.a19, hR90.a63, hR90.a64, hR90.hp, hR.e18, hR74.e18]
            refine ⟨⟨trivial, trivial⟩, fun w95 τ95 w95' τ95' hq95 => ?_⟩
            obtain ⟨⟨rfl, hE95⟩, rfl, hF95⟩ := hq95
            have hR95 : Rj 1 τ95 τ95' := Rj.em (by (repeat (first | exact hR90 | refine Rj.i ?_ rfl | refine Rj.a ?_ rfl | refine Rj.m ?_ | refine Rj.s ?_ (by decide) | refine Rj.o1 ?_ (by first | lia | (dsimp only [Nat.beq, gI_sI, gI_sL, gI_sA, gI_sM, gL_sI, gL_sL, gL_sA, gL_sM, aI_sI, aI_sL, aI_sA, aI_sM, aL_sI, aL_sL, aL_sA, aL_sM]; lia)) | refine Rj.o2 ?_ | refine Rj.f1 ?_ (by first | lia | (dsimp only [Nat.beq, gI_sI, gI_sL, gI_sA, gI_sM, gL_sI, gL_sL, gL_sA, gL_sM, aI_sI, aI_sL, aI_sA, aI_sM, aL_sI, aL_sL, aL_sA, aL_sM]; lia)) | refine Rj.f2 ?_ | refine Rj.fs ?_))) hE95 hF95 (by first | exact fun _ => rfl | exact fun q => absurd q (by decide))
            have hp95 := hE95.1 14 (by decide)
            have ho95 := hE95.1 29 (by decide)
            have hh95 := hE95.1 62 (by decide)
            have hg95 := hE95.1 49 (by decide)
            have hw95 := hE95.1 34 (by decide)
            have hv95 := hF95.1 34 (by decide)
            have ht95 := hE95.2.2.2.2.1 3 (by decide)
            try dsimp only [Nat.beq, gI_sI, gI_sL, gI_sA, gI_sM, gL_sI, gL_sL, gL_sA, gL_sM, aI_sI, aI_sL, aI_sA, aI_sM, aL_sI, aL_sL, aL_sA, aL_sM] at hp95
            try dsimp only [Nat.beq, gI_sI, gI_sL, gI_sA, gI_sM, gL_sI, gL_sL, gL_sA, gL_sM, aI_sI, aI_sL, aI_sA, aI_sM, aL_sI, aL_sL, aL_sA, aL_sM] at ho95
            try dsimp only [Nat.beq, gI_sI, gI_sL, gI_sA, gI_sM, gL_sI, gL_sL, gL_sA, gL_sM, aI_sI, aI_sL, aI_sA, aI_sM, aL_sI, aL_sL, aL_sA, aL_sM] at hh95
            try dsimp only [Nat.beq, gI_sI, gI_sL, gI_sA, gI_sM, gL_sI, gL_sL, gL_sA, gL_sM, aI_sI, aI_sL, aI_sA, aI_sM, aL_sI, aL_sL, aL_sA, aL_sM] at hg95
            try dsimp only [Nat.beq, gI_sI, gI_sL, gI_sA, gI_sM, gL_sI, gL_sL, gL_sA, gL_sM, aI_sI, aI_sL, aI_sA, aI_sM, aL_sI, aL_sL, aL_sA, aL_sM] at hw95
            try dsimp only [Nat.beq, gI_sI, gI_sL, gI_sA, gI_sM, gL_sI, gL_sL, gL_sA, gL_sM, aI_sI, aI_sL, aI_sA, aI_sM, aL_sI, aL_sL, aL_sA, aL_sM] at hv95
            try dsimp only [Nat.beq, gI_sI, gI_sL, gI_sA, gI_sM, gL_sI, gL_sL, gL_sA, gL_sM, aI_sI, aI_sL, aI_sA, aI_sM, aL_sI, aL_sL, aL_sA, aL_sM] at ht95
            have hz95 := congrFun ht95 (gI τ95 14).toNatClampNeg
            dsimp only [Option.toList, List.cons_append, List.nil_append, Nat.beq, gI_sI, gI_sL, gI_sA, gI_sM, gL_sI, gL_sL, gL_sA, gL_sM, aI_sI, aI_sL, aI_sA, aI_sM, aL_sI, aL_sL, aL_sA, aL_sM]
            try simp only [hR95.e2, hR95.e14, hR95.e15, hR95.e17, hR95.e18, hR95.e36, hR95.e42, hR95.e49, hR95.e62, hR95.a3, hR95.a6, hR95.a51, hR95.a19, hR95.a63, hR95.a64, hR95.hp, hR.e18, hR74.e18, hR90.e18]
            refine ⟨(by (repeat (first | exact hR95 | refine Rj.i ?_ rfl | refine Rj.a ?_ rfl | refine Rj.m ?_ | refine Rj.s ?_ (by decide) | refine Rj.o1 ?_ (by first | lia | (dsimp only [Nat.beq, gI_sI, gI_sL, gI_sA, gI_sM, gL_sI, gL_sL, gL_sA, gL_sM, aI_sI, aI_sL, aI_sA, aI_sM, aL_sI, aL_sL, aL_sA, aL_sM]; lia)) | refine Rj.o2 ?_ | refine Rj.f1 ?_ (by first | lia | (dsimp only [Nat.beq, gI_sI, gI_sL, gI_sA, gI_sM, gL_sI, gL_sL, gL_sA, gL_sM, aI_sI, aI_sL, aI_sA, aI_sM, aL_sI, aL_sL, aL_sA, aL_sM]; lia)) | refine Rj.f2 ?_ | refine Rj.fs ?_))), fun w96 τ96 w96' τ96' hq96 => ?_⟩
            obtain ⟨b96, rfl, rfl, hb96⟩ := hq96
            rcases hb96 with rfl | ⟨rfl, hR96⟩
            · dsimp only [Option.toList, List.cons_append, List.nil_append, Nat.beq, gI_sI, gI_sL, gI_sA, gI_sM, gL_sI, gL_sL, gL_sA, gL_sM, aI_sI, aI_sL, aI_sA, aI_sM, aL_sI, aL_sL, aL_sA, aL_sM]
              try simp only [hR95.e2, hR95.e14, hR95.e15, hR95.e17, hR95.e18, hR95.e36, hR95.e42, hR95.e49, hR95.e62, hR95.a3, hR95.a6, hR95.a51, hR95.a19, hR95.a63, hR95.a64, hR95.hp, hR.e18, hR74.e18, hR90.e18]
              unfold Qj_gives
              try dsimp only
              exact ⟨_, rfl, rfl, Or.inl rfl⟩
            · dsimp only [Option.toList, List.cons_append, List.nil_append, Nat.beq, gI_sI, gI_sL, gI_sA, gI_sM, gL_sI, gL_sL, gL_sA, gL_sM, aI_sI, aI_sL, aI_sA, aI_sM, aL_sI, aL_sL, aL_sA, aL_sM]
              try simp only [hR96.e2, hR96.e14, hR96.e15, hR96.e17, hR96.e18, hR96.e36, hR96.e42, hR96.e49, hR96.e62, hR96.a3, hR96.a6, hR96.a51, hR96.a19, hR96.a63, hR96.a64, hR96.hp, hR.e18, hR74.e18, hR90.e18]
              unfold Qj_gives
              try dsimp only
              exact ⟨_, rfl, rfl, Or.inr ⟨rfl, by (repeat (first | exact hR96 | refine Rj.i ?_ rfl | refine Rj.a ?_ rfl | refine Rj.m ?_ | refine Rj.s ?_ (by decide) | refine Rj.o1 ?_ (by first | lia | (dsimp only [Nat.beq, gI_sI, gI_sL, gI_sA, gI_sM, gL_sI, gL_sL, gL_sA, gL_sM, aI_sI, aI_sL, aI_sA, aI_sM, aL_sI, aL_sL, aL_sA, aL_sM]; lia)) | refine Rj.o2 ?_ | refine Rj.f1 ?_ (by first | lia | (dsimp only [Nat.beq, gI_sI, gI_sL, gI_sA, gI_sM, gL_sI, gL_sL, gL_sA, gL_sM, aI_sI, aI_sL, aI_sA, aI_sM, aL_sI, aL_sL, aL_sA, aL_sM]; lia)) | refine Rj.f2 ?_ | refine Rj.fs ?_))⟩⟩
  next => exact hP.elim
def Pj_tryOf : JPr := fun A1 A2 σ ρ => match A1, A2 with
  | [], [] => Rj 1 σ ρ ∧ aI σ 3 (gI σ 14).toNatClampNeg = 4
  | _, _ => False
def Qj_tryOf : JQr := fun A1 A2 σ ρ w τ w' τ' => match A1, A2 with
  | [], [] => ∃ b : Int32, w = some (.int b) ∧ w' = some (.int b) ∧ (b = 0 ∨ (b = 1 ∧ Rj 1 τ τ'))
  | _, _ => False
set_option maxRecDepth 100000 in
set_option maxHeartbeats 4000000 in
theorem j_tryOf : JMet 66 Pj_tryOf Qj_tryOf := by
  refine JMet.by BtryOf [(20, (fun A1 A2 σ ρ => Pu_emit A1 σ ∧ Pu_emit A2 ρ), (fun A1 A2 σ ρ w τ w' τ' => Qu_emit A1 σ w τ ∧ Qu_emit A2 ρ w' τ')), (36, Pj_open, Qj_open), (17, Pj_take, Qj_take), (35, (fun A1 A2 σ ρ => Pu_thing A1 σ ∧ Pu_thing A2 ρ), (fun A1 A2 σ ρ w τ w' τ' => Qu_thing A1 σ w τ ∧ Qu_thing A2 ρ w' τ')), (18, Pj_want, Qj_want)] rfl (jcc (JMet.u u_emit) (jcc j_open (jcc j_take (jcc (JMet.u u_thing) (jcc j_want jc0))))) ?_
  intro A1 A2 σ ρ hP K hB hW
  unfold Pj_tryOf at hP
  split at hP
  next =>
    obtain ⟨hR, htk⟩ := hP
    intro n0
    refine hB _ _ _ _ _ _ _ _ (fun m1 hm1 => ?_)
    dsimp only [jgo, jwp, jst, jct, rfd, BtryOf, Nat.beq, lv_args, rlk, rs1, rs2, rdl, rky, rcd, rno, rsw, Value.category, List.filter, List.take, List.drop, List.reverse, List.reverseAux, List.cons_append, List.nil_append, Option.toList, Int.toNat, Int.reduceToNat, if_pos, if_neg, reduceIte, ↓reduceIte, Nat.reduceAdd, Nat.reduceEqDiff, Nat.reduceBEq, beq_self_eq_true, Bool.not_true, Bool.not_false, Bool.and_true, Bool.and_false, Bool.true_and, Bool.false_and, gI_sI, gI_sL, gI_sA, gI_sM, gL_sI, gL_sL, gL_sA, gL_sM, aI_sI, aI_sL, aI_sA, aI_sM, aL_sI, aL_sL, aL_sA, aL_sM, BtryOf_0, BtryOf_29, BtryOf_31, BtryOf_49, BtryOf_60, BtryOf_64, BtryOf_65, oi_0, oi_1, oi_123, oi_20, oi_50, oi_9, Pu_emit, Pj_open, Pj_take, Pu_thing, Pj_want]; try dsimp only
    try simp only [hR.e2, hR.e14, hR.e15, hR.e17, hR.e18, hR.e36, hR.e42, hR.e49, hR.e62, hR.a3, hR.a6, hR.a51, hR.a19, hR.a63, hR.a64, hR.hp]
    refine ⟨⟨trivial, trivial⟩, fun w2 τ2 w2' τ2' hq2 => ?_⟩
    obtain ⟨⟨rfl, hE2⟩, rfl, hF2⟩ := hq2
    have hR2 : Rj 1 τ2 τ2' := Rj.em (by (repeat (first | exact hR | refine Rj.i ?_ rfl | refine Rj.a ?_ rfl | refine Rj.m ?_ | refine Rj.s ?_ (by decide) | refine Rj.o1 ?_ (by first | lia | (dsimp only [Nat.beq, gI_sI, gI_sL, gI_sA, gI_sM, gL_sI, gL_sL, gL_sA, gL_sM, aI_sI, aI_sL, aI_sA, aI_sM, aL_sI, aL_sL, aL_sA, aL_sM]; lia)) | refine Rj.o2 ?_ | refine Rj.f1 ?_ (by first | lia | (dsimp only [Nat.beq, gI_sI, gI_sL, gI_sA, gI_sM, gL_sI, gL_sL, gL_sA, gL_sM, aI_sI, aI_sL, aI_sA, aI_sM, aL_sI, aL_sL, aL_sA, aL_sM]; lia)) | refine Rj.f2 ?_ | refine Rj.fs ?_))) hE2 hF2 (by first | exact fun _ => rfl | exact fun q => absurd q (by decide))
    have hp2 := hE2.1 14 (by decide)
    have ho2 := hE2.1 29 (by decide)
    have hh2 := hE2.1 62 (by decide)
    have hg2 := hE2.1 49 (by decide)
    have hw2 := hE2.1 34 (by decide)
    have hv2 := hF2.1 34 (by decide)
    have ht2 := hE2.2.2.2.2.1 3 (by decide)
    try dsimp only [Nat.beq, gI_sI, gI_sL, gI_sA, gI_sM, gL_sI, gL_sL, gL_sA, gL_sM, aI_sI, aI_sL, aI_sA, aI_sM, aL_sI, aL_sL, aL_sA, aL_sM] at hp2
    try dsimp only [Nat.beq, gI_sI, gI_sL, gI_sA, gI_sM, gL_sI, gL_sL, gL_sA, gL_sM, aI_sI, aI_sL, aI_sA, aI_sM, aL_sI, aL_sL, aL_sA, aL_sM] at ho2
    try dsimp only [Nat.beq, gI_sI, gI_sL, gI_sA, gI_sM, gL_sI, gL_sL, gL_sA, gL_sM, aI_sI, aI_sL, aI_sA, aI_sM, aL_sI, aL_sL, aL_sA, aL_sM] at hh2
    try dsimp only [Nat.beq, gI_sI, gI_sL, gI_sA, gI_sM, gL_sI, gL_sL, gL_sA, gL_sM, aI_sI, aI_sL, aI_sA, aI_sM, aL_sI, aL_sL, aL_sA, aL_sM] at hg2
    try dsimp only [Nat.beq, gI_sI, gI_sL, gI_sA, gI_sM, gL_sI, gL_sL, gL_sA, gL_sM, aI_sI, aI_sL, aI_sA, aI_sM, aL_sI, aL_sL, aL_sA, aL_sM] at hw2
    try dsimp only [Nat.beq, gI_sI, gI_sL, gI_sA, gI_sM, gL_sI, gL_sL, gL_sA, gL_sM, aI_sI, aI_sL, aI_sA, aI_sM, aL_sI, aL_sL, aL_sA, aL_sM] at hv2
    try dsimp only [Nat.beq, gI_sI, gI_sL, gI_sA, gI_sM, gL_sI, gL_sL, gL_sA, gL_sM, aI_sI, aI_sL, aI_sA, aI_sM, aL_sI, aL_sL, aL_sA, aL_sM] at ht2
    have hz2 := congrFun ht2 (gI τ2 14).toNatClampNeg
    dsimp only [Option.toList, List.cons_append, List.nil_append, Nat.beq, gI_sI, gI_sL, gI_sA, gI_sM, gL_sI, gL_sL, gL_sA, gL_sM, aI_sI, aI_sL, aI_sA, aI_sM, aL_sI, aL_sL, aL_sA, aL_sM]
    try simp only [hR2.e2, hR2.e14, hR2.e15, hR2.e17, hR2.e18, hR2.e36, hR2.e42, hR2.e49, hR2.e62, hR2.a3, hR2.a6, hR2.a51, hR2.a19, hR2.a63, hR2.a64, hR2.hp, hR.e18]
    refine ⟨⟨trivial, trivial⟩, fun w3 τ3 w3' τ3' hq3 => ?_⟩
    obtain ⟨⟨rfl, hE3⟩, rfl, hF3⟩ := hq3
    have hR3 : Rj 1 τ3 τ3' := Rj.th (by (repeat (first | exact hR2 | refine Rj.i ?_ rfl | refine Rj.a ?_ rfl | refine Rj.m ?_ | refine Rj.s ?_ (by decide) | refine Rj.o1 ?_ (by first | lia | (dsimp only [Nat.beq, gI_sI, gI_sL, gI_sA, gI_sM, gL_sI, gL_sL, gL_sA, gL_sM, aI_sI, aI_sL, aI_sA, aI_sM, aL_sI, aL_sL, aL_sA, aL_sM]; lia)) | refine Rj.o2 ?_ | refine Rj.f1 ?_ (by first | lia | (dsimp only [Nat.beq, gI_sI, gI_sL, gI_sA, gI_sM, gL_sI, gL_sL, gL_sA, gL_sM, aI_sI, aI_sL, aI_sA, aI_sM, aL_sI, aL_sL, aL_sA, aL_sM]; lia)) | refine Rj.f2 ?_ | refine Rj.fs ?_))) hE3 hF3
    have hl3 := hE3.lt
    try dsimp only [Nat.beq, gI_sI, gI_sL, gI_sA, gI_sM, gL_sI, gL_sL, gL_sA, gL_sM, aI_sI, aI_sL, aI_sA, aI_sM, aL_sI, aL_sL, aL_sA, aL_sM] at hl3
    have hp3 := hE3.1 14 (by decide)
    have hh3 := hE3.1 62 (by decide)
    have ht3 := hE3.2.2.2.1 3 (by decide)
    try dsimp only [Nat.beq, gI_sI, gI_sL, gI_sA, gI_sM, gL_sI, gL_sL, gL_sA, gL_sM, aI_sI, aI_sL, aI_sA, aI_sM, aL_sI, aL_sL, aL_sA, aL_sM] at hp3
    try dsimp only [Nat.beq, gI_sI, gI_sL, gI_sA, gI_sM, gL_sI, gL_sL, gL_sA, gL_sM, aI_sI, aI_sL, aI_sA, aI_sM, aL_sI, aL_sL, aL_sA, aL_sM] at hh3
    try dsimp only [Nat.beq, gI_sI, gI_sL, gI_sA, gI_sM, gL_sI, gL_sL, gL_sA, gL_sM, aI_sI, aI_sL, aI_sA, aI_sM, aL_sI, aL_sL, aL_sA, aL_sM] at ht3
    have hz3 := congrFun ht3 (gI τ3 14).toNatClampNeg
    dsimp only [Option.toList, List.cons_append, List.nil_append, Nat.beq, gI_sI, gI_sL, gI_sA, gI_sM, gL_sI, gL_sL, gL_sA, gL_sM, aI_sI, aI_sL, aI_sA, aI_sM, aL_sI, aL_sL, aL_sA, aL_sM]
    try simp only [hR3.e2, hR3.e14, hR3.e15, hR3.e17, hR3.e18, hR3.e36, hR3.e42, hR3.e49, hR3.e62, hR3.a3, hR3.a6, hR3.a51, hR3.a19, hR3.a63, hR3.a64, hR3.hp, hR.e18, hR2.e49]
    refine ⟨⟨(Rj.w (md := 1) (by (repeat (first | exact hR3 | refine Rj.i ?_ rfl | refine Rj.a ?_ rfl | refine Rj.m ?_ | refine Rj.s ?_ (by decide) | refine Rj.o1 ?_ (by first | lia | (dsimp only [Nat.beq, gI_sI, gI_sL, gI_sA, gI_sM, gL_sI, gL_sL, gL_sA, gL_sM, aI_sI, aI_sL, aI_sA, aI_sM, aL_sI, aL_sL, aL_sA, aL_sM]; lia)) | refine Rj.o2 ?_ | refine Rj.f1 ?_ (by first | lia | (dsimp only [Nat.beq, gI_sI, gI_sL, gI_sA, gI_sM, gL_sI, gL_sL, gL_sA, gL_sM, aI_sI, aI_sL, aI_sA, aI_sM, aL_sI, aL_sL, aL_sA, aL_sM]; lia)) | refine Rj.f2 ?_ | refine Rj.fs ?_)))), by lia, by lia⟩, fun w4 τ4 w4' τ4' hq4 => ?_⟩
    obtain ⟨b4, rfl, rfl, hb4⟩ := hq4
    rcases hb4 with rfl | ⟨rfl, hr4, hk4, hx4⟩
    · dsimp only [Option.toList, List.cons_append, List.nil_append, Nat.beq, gI_sI, gI_sL, gI_sA, gI_sM, gL_sI, gL_sL, gL_sA, gL_sM, aI_sI, aI_sL, aI_sA, aI_sM, aL_sI, aL_sL, aL_sA, aL_sM]
      try simp only [hR3.e2, hR3.e14, hR3.e15, hR3.e17, hR3.e18, hR3.e36, hR3.e42, hR3.e49, hR3.e62, hR3.a3, hR3.a6, hR3.a51, hR3.a19, hR3.a63, hR3.a64, hR3.hp, hR.e18, hR2.e49]
      refine ⟨fun h5 => absurd h5 (by decide), fun h5 => ⟨(by exact h5), ?_⟩⟩
      clear h5
      refine hB _ _ _ _ _ _ _ _ (fun m6 hm6 => ?_)
      dsimp only [jgo, jwp, jst, jct, rfd, BtryOf, Nat.beq, lv_args, rlk, rs1, rs2, rdl, rky, rcd, rno, rsw, Value.category, List.filter, List.take, List.drop, List.reverse, List.reverseAux, List.cons_append, List.nil_append, Option.toList, Int.toNat, Int.reduceToNat, if_pos, if_neg, reduceIte, ↓reduceIte, Nat.reduceAdd, Nat.reduceEqDiff, Nat.reduceBEq, beq_self_eq_true, Bool.not_true, Bool.not_false, Bool.and_true, Bool.and_false, Bool.true_and, Bool.false_and, gI_sI, gI_sL, gI_sA, gI_sM, gL_sI, gL_sL, gL_sA, gL_sM, aI_sI, aI_sL, aI_sA, aI_sM, aL_sI, aL_sL, aL_sA, aL_sM, BtryOf_0, BtryOf_29, BtryOf_31, BtryOf_49, BtryOf_60, BtryOf_64, BtryOf_65, oi_0, oi_1, oi_123, oi_20, oi_50, oi_9, Pu_emit, Pj_open, Pj_take, Pu_thing, Pj_want]; try dsimp only
      try simp only [hR3.e2, hR3.e14, hR3.e15, hR3.e17, hR3.e18, hR3.e36, hR3.e42, hR3.e49, hR3.e62, hR3.a3, hR3.a6, hR3.a51, hR3.a19, hR3.a63, hR3.a64, hR3.hp, hR.e18, hR2.e49]
      unfold Qj_tryOf
      try dsimp only
      exact ⟨_, rfl, rfl, Or.inl rfl⟩
    · dsimp only [Option.toList, List.cons_append, List.nil_append, Nat.beq, gI_sI, gI_sL, gI_sA, gI_sM, gL_sI, gL_sL, gL_sA, gL_sM, aI_sI, aI_sL, aI_sA, aI_sM, aL_sI, aL_sL, aL_sA, aL_sM]
      have hR4 : Rj 1 τ4 τ4' := hr4 _ (by (repeat (first | exact hR3 | refine Rj.i ?_ rfl | refine Rj.a ?_ rfl | refine Rj.m ?_ | refine Rj.s ?_ (by decide) | refine Rj.o1 ?_ (by first | lia | (dsimp only [Nat.beq, gI_sI, gI_sL, gI_sA, gI_sM, gL_sI, gL_sL, gL_sA, gL_sM, aI_sI, aI_sL, aI_sA, aI_sM, aL_sI, aL_sL, aL_sA, aL_sM]; lia)) | refine Rj.o2 ?_ | refine Rj.f1 ?_ (by first | lia | (dsimp only [Nat.beq, gI_sI, gI_sL, gI_sA, gI_sM, gL_sI, gL_sL, gL_sA, gL_sM, aI_sI, aI_sL, aI_sA, aI_sM, aL_sI, aL_sL, aL_sA, aL_sM]; lia)) | refine Rj.f2 ?_ | refine Rj.fs ?_)))
      have ht4 := hk4.2 3 rfl
      have hc4 := hk4.1 2 rfl
      try dsimp only [Nat.beq, gI_sI, gI_sL, gI_sA, gI_sM, gL_sI, gL_sL, gL_sA, gL_sM, aI_sI, aI_sL, aI_sA, aI_sM, aL_sI, aL_sL, aL_sA, aL_sM] at hx4
      try dsimp only [Nat.beq, gI_sI, gI_sL, gI_sA, gI_sM, gL_sI, gL_sL, gL_sA, gL_sM, aI_sI, aI_sL, aI_sA, aI_sM, aL_sI, aL_sL, aL_sA, aL_sM] at ht4
      try dsimp only [Nat.beq, gI_sI, gI_sL, gI_sA, gI_sM, gL_sI, gL_sL, gL_sA, gL_sM, aI_sI, aI_sL, aI_sA, aI_sM, aL_sI, aL_sL, aL_sA, aL_sM] at hc4
      have hh4 := hk4.1 62 rfl
      have hg4 := hk4.1 49 rfl
      try dsimp only [Nat.beq, gI_sI, gI_sL, gI_sA, gI_sM, gL_sI, gL_sL, gL_sA, gL_sM, aI_sI, aI_sL, aI_sA, aI_sM, aL_sI, aL_sL, aL_sA, aL_sM] at hh4
      try dsimp only [Nat.beq, gI_sI, gI_sL, gI_sA, gI_sM, gL_sI, gL_sL, gL_sA, gL_sM, aI_sI, aI_sL, aI_sA, aI_sM, aL_sI, aL_sL, aL_sA, aL_sM] at hg4
      have hz4 := congrFun ht4 (gI τ4 14).toNatClampNeg
      try simp only [hR4.e2, hR4.e14, hR4.e15, hR4.e17, hR4.e18, hR4.e36, hR4.e42, hR4.e49, hR4.e62, hR4.a3, hR4.a6, hR4.a51, hR4.a19, hR4.a63, hR4.a64, hR4.hp, hR.e18, hR2.e49]
      refine ⟨fun h7 => ⟨(by exact h7), ?_⟩, fun h7 => absurd h7 (by decide)⟩
      clear h7
      refine hB _ _ _ _ _ _ _ _ (fun m8 hm8 => ?_)
      dsimp only [jgo, jwp, jst, jct, rfd, BtryOf, Nat.beq, lv_args, rlk, rs1, rs2, rdl, rky, rcd, rno, rsw, Value.category, List.filter, List.take, List.drop, List.reverse, List.reverseAux, List.cons_append, List.nil_append, Option.toList, Int.toNat, Int.reduceToNat, if_pos, if_neg, reduceIte, ↓reduceIte, Nat.reduceAdd, Nat.reduceEqDiff, Nat.reduceBEq, beq_self_eq_true, Bool.not_true, Bool.not_false, Bool.and_true, Bool.and_false, Bool.true_and, Bool.false_and, gI_sI, gI_sL, gI_sA, gI_sM, gL_sI, gL_sL, gL_sA, gL_sM, aI_sI, aI_sL, aI_sA, aI_sM, aL_sI, aL_sL, aL_sA, aL_sM, BtryOf_0, BtryOf_29, BtryOf_31, BtryOf_49, BtryOf_60, BtryOf_64, BtryOf_65, oi_0, oi_1, oi_123, oi_20, oi_50, oi_9, Pu_emit, Pj_open, Pj_take, Pu_thing, Pj_want]; try dsimp only
      try simp only [hR4.e2, hR4.e14, hR4.e15, hR4.e17, hR4.e18, hR4.e36, hR4.e42, hR4.e49, hR4.e62, hR4.a3, hR4.a6, hR4.a51, hR4.a19, hR4.a63, hR4.a64, hR4.hp, hR.e18, hR2.e49]
      refine ⟨⟨trivial, trivial⟩, fun w9 τ9 w9' τ9' hq9 => ?_⟩
      obtain ⟨⟨rfl, hE9⟩, rfl, hF9⟩ := hq9
      have hR9 : Rj 1 τ9 τ9' := Rj.em (by (repeat (first | exact hR4 | refine Rj.i ?_ rfl | refine Rj.a ?_ rfl | refine Rj.m ?_ | refine Rj.s ?_ (by decide) | refine Rj.o1 ?_ (by first | lia | (dsimp only [Nat.beq, gI_sI, gI_sL, gI_sA, gI_sM, gL_sI, gL_sL, gL_sA, gL_sM, aI_sI, aI_sL, aI_sA, aI_sM, aL_sI, aL_sL, aL_sA, aL_sM]; lia)) | refine Rj.o2 ?_ | refine Rj.f1 ?_ (by first | lia | (dsimp only [Nat.beq, gI_sI, gI_sL, gI_sA, gI_sM, gL_sI, gL_sL, gL_sA, gL_sM, aI_sI, aI_sL, aI_sA, aI_sM, aL_sI, aL_sL, aL_sA, aL_sM]; lia)) | refine Rj.f2 ?_ | refine Rj.fs ?_))) hE9 hF9 (by first | exact fun _ => rfl | exact fun q => absurd q (by decide))
      have hp9 := hE9.1 14 (by decide)
      have ho9 := hE9.1 29 (by decide)
      have hh9 := hE9.1 62 (by decide)
      have hg9 := hE9.1 49 (by decide)
      have hw9 := hE9.1 34 (by decide)
      have hv9 := hF9.1 34 (by decide)
      have ht9 := hE9.2.2.2.2.1 3 (by decide)
      try dsimp only [Nat.beq, gI_sI, gI_sL, gI_sA, gI_sM, gL_sI, gL_sL, gL_sA, gL_sM, aI_sI, aI_sL, aI_sA, aI_sM, aL_sI, aL_sL, aL_sA, aL_sM] at hp9
      try dsimp only [Nat.beq, gI_sI, gI_sL, gI_sA, gI_sM, gL_sI, gL_sL, gL_sA, gL_sM, aI_sI, aI_sL, aI_sA, aI_sM, aL_sI, aL_sL, aL_sA, aL_sM] at ho9
      try dsimp only [Nat.beq, gI_sI, gI_sL, gI_sA, gI_sM, gL_sI, gL_sL, gL_sA, gL_sM, aI_sI, aI_sL, aI_sA, aI_sM, aL_sI, aL_sL, aL_sA, aL_sM] at hh9
      try dsimp only [Nat.beq, gI_sI, gI_sL, gI_sA, gI_sM, gL_sI, gL_sL, gL_sA, gL_sM, aI_sI, aI_sL, aI_sA, aI_sM, aL_sI, aL_sL, aL_sA, aL_sM] at hg9
      try dsimp only [Nat.beq, gI_sI, gI_sL, gI_sA, gI_sM, gL_sI, gL_sL, gL_sA, gL_sM, aI_sI, aI_sL, aI_sA, aI_sM, aL_sI, aL_sL, aL_sA, aL_sM] at hw9
      try dsimp only [Nat.beq, gI_sI, gI_sL, gI_sA, gI_sM, gL_sI, gL_sL, gL_sA, gL_sM, aI_sI, aI_sL, aI_sA, aI_sM, aL_sI, aL_sL, aL_sA, aL_sM] at hv9
      try dsimp only [Nat.beq, gI_sI, gI_sL, gI_sA, gI_sM, gL_sI, gL_sL, gL_sA, gL_sM, aI_sI, aI_sL, aI_sA, aI_sM, aL_sI, aL_sL, aL_sA, aL_sM] at ht9
      have hz9 := congrFun ht9 (gI τ9 14).toNatClampNeg
      dsimp only [Option.toList, List.cons_append, List.nil_append, Nat.beq, gI_sI, gI_sL, gI_sA, gI_sM, gL_sI, gL_sL, gL_sA, gL_sM, aI_sI, aI_sL, aI_sA, aI_sM, aL_sI, aL_sL, aL_sA, aL_sM]
      try simp only [hR9.e2, hR9.e14, hR9.e15, hR9.e17, hR9.e18, hR9.e36, hR9.e42, hR9.e49, hR9.e62, hR9.a3, hR9.a6, hR9.a51, hR9.a19, hR9.a63, hR9.a64, hR9.hp, hR.e18, hR2.e49, hR4.e18]
      refine ⟨⟨(Rj.w (md := 1) (by (repeat (first | exact hR9 | refine Rj.i ?_ rfl | refine Rj.a ?_ rfl | refine Rj.m ?_ | refine Rj.s ?_ (by decide) | refine Rj.o1 ?_ (by first | lia | (dsimp only [Nat.beq, gI_sI, gI_sL, gI_sA, gI_sM, gL_sI, gL_sL, gL_sA, gL_sM, aI_sI, aI_sL, aI_sA, aI_sM, aL_sI, aL_sL, aL_sA, aL_sM]; lia)) | refine Rj.o2 ?_ | refine Rj.f1 ?_ (by first | lia | (dsimp only [Nat.beq, gI_sI, gI_sL, gI_sA, gI_sM, gL_sI, gL_sL, gL_sA, gL_sM, aI_sI, aI_sL, aI_sA, aI_sM, aL_sI, aL_sL, aL_sA, aL_sM]; lia)) | refine Rj.f2 ?_ | refine Rj.fs ?_)))), (by first | exact True.intro | rfl)⟩, fun w10 τ10 w10' τ10' hq10 => ?_⟩
      obtain ⟨b10, rfl, rfl, hb10⟩ := hq10
      rcases hb10 with rfl | ⟨rfl, hr10, hk10, hx10⟩
      · dsimp only [Option.toList, List.cons_append, List.nil_append, Nat.beq, gI_sI, gI_sL, gI_sA, gI_sM, gL_sI, gL_sL, gL_sA, gL_sM, aI_sI, aI_sL, aI_sA, aI_sM, aL_sI, aL_sL, aL_sA, aL_sM]
        try simp only [hR9.e2, hR9.e14, hR9.e15, hR9.e17, hR9.e18, hR9.e36, hR9.e42, hR9.e49, hR9.e62, hR9.a3, hR9.a6, hR9.a51, hR9.a19, hR9.a63, hR9.a64, hR9.hp, hR.e18, hR2.e49, hR4.e18]
        refine ⟨fun h11 => ⟨(by exact h11), ?_⟩, fun h11 => absurd h11 (by decide)⟩
        clear h11
        refine hB _ _ _ _ _ _ _ _ (fun m12 hm12 => ?_)
        dsimp only [jgo, jwp, jst, jct, rfd, BtryOf, Nat.beq, lv_args, rlk, rs1, rs2, rdl, rky, rcd, rno, rsw, Value.category, List.filter, List.take, List.drop, List.reverse, List.reverseAux, List.cons_append, List.nil_append, Option.toList, Int.toNat, Int.reduceToNat, if_pos, if_neg, reduceIte, ↓reduceIte, Nat.reduceAdd, Nat.reduceEqDiff, Nat.reduceBEq, beq_self_eq_true, Bool.not_true, Bool.not_false, Bool.and_true, Bool.and_false, Bool.true_and, Bool.false_and, gI_sI, gI_sL, gI_sA, gI_sM, gL_sI, gL_sL, gL_sA, gL_sM, aI_sI, aI_sL, aI_sA, aI_sM, aL_sI, aL_sL, aL_sA, aL_sM, BtryOf_0, BtryOf_29, BtryOf_31, BtryOf_49, BtryOf_60, BtryOf_64, BtryOf_65, oi_0, oi_1, oi_123, oi_20, oi_50, oi_9, Pu_emit, Pj_open, Pj_take, Pu_thing, Pj_want]; try dsimp only
        try simp only [hR9.e2, hR9.e14, hR9.e15, hR9.e17, hR9.e18, hR9.e36, hR9.e42, hR9.e49, hR9.e62, hR9.a3, hR9.a6, hR9.a51, hR9.a19, hR9.a63, hR9.a64, hR9.hp, hR.e18, hR2.e49, hR4.e18]
        refine hB _ _ _ _ _ _ _ _ (fun m13 hm13 => ?_)
        dsimp only [jgo, jwp, jst, jct, rfd, BtryOf, Nat.beq, lv_args, rlk, rs1, rs2, rdl, rky, rcd, rno, rsw, Value.category, List.filter, List.take, List.drop, List.reverse, List.reverseAux, List.cons_append, List.nil_append, Option.toList, Int.toNat, Int.reduceToNat, if_pos, if_neg, reduceIte, ↓reduceIte, Nat.reduceAdd, Nat.reduceEqDiff, Nat.reduceBEq, beq_self_eq_true, Bool.not_true, Bool.not_false, Bool.and_true, Bool.and_false, Bool.true_and, Bool.false_and, gI_sI, gI_sL, gI_sA, gI_sM, gL_sI, gL_sL, gL_sA, gL_sM, aI_sI, aI_sL, aI_sA, aI_sM, aL_sI, aL_sL, aL_sA, aL_sM, BtryOf_0, BtryOf_29, BtryOf_31, BtryOf_49, BtryOf_60, BtryOf_64, BtryOf_65, oi_0, oi_1, oi_123, oi_20, oi_50, oi_9, Pu_emit, Pj_open, Pj_take, Pu_thing, Pj_want]; try dsimp only
        try simp only [hR9.e2, hR9.e14, hR9.e15, hR9.e17, hR9.e18, hR9.e36, hR9.e42, hR9.e49, hR9.e62, hR9.a3, hR9.a6, hR9.a51, hR9.a19, hR9.a63, hR9.a64, hR9.hp, hR.e18, hR2.e49, hR4.e18]
        unfold Qj_tryOf
        try dsimp only
        exact ⟨_, rfl, rfl, Or.inl rfl⟩
      · dsimp only [Option.toList, List.cons_append, List.nil_append, Nat.beq, gI_sI, gI_sL, gI_sA, gI_sM, gL_sI, gL_sL, gL_sA, gL_sM, aI_sI, aI_sL, aI_sA, aI_sM, aL_sI, aL_sL, aL_sA, aL_sM]
        have hR10 : Rj 1 τ10 τ10' := hr10 _ (by (repeat (first | exact hR9 | refine Rj.i ?_ rfl | refine Rj.a ?_ rfl | refine Rj.m ?_ | refine Rj.s ?_ (by decide) | refine Rj.o1 ?_ (by first | lia | (dsimp only [Nat.beq, gI_sI, gI_sL, gI_sA, gI_sM, gL_sI, gL_sL, gL_sA, gL_sM, aI_sI, aI_sL, aI_sA, aI_sM, aL_sI, aL_sL, aL_sA, aL_sM]; lia)) | refine Rj.o2 ?_ | refine Rj.f1 ?_ (by first | lia | (dsimp only [Nat.beq, gI_sI, gI_sL, gI_sA, gI_sM, gL_sI, gL_sL, gL_sA, gL_sM, aI_sI, aI_sL, aI_sA, aI_sM, aL_sI, aL_sL, aL_sA, aL_sM]; lia)) | refine Rj.f2 ?_ | refine Rj.fs ?_)))
        have ht10 := hk10.2 3 rfl
        have hc10 := hk10.1 2 rfl
        try dsimp only [Nat.beq, gI_sI, gI_sL, gI_sA, gI_sM, gL_sI, gL_sL, gL_sA, gL_sM, aI_sI, aI_sL, aI_sA, aI_sM, aL_sI, aL_sL, aL_sA, aL_sM] at hx10
        try dsimp only [Nat.beq, gI_sI, gI_sL, gI_sA, gI_sM, gL_sI, gL_sL, gL_sA, gL_sM, aI_sI, aI_sL, aI_sA, aI_sM, aL_sI, aL_sL, aL_sA, aL_sM] at ht10
        try dsimp only [Nat.beq, gI_sI, gI_sL, gI_sA, gI_sM, gL_sI, gL_sL, gL_sA, gL_sM, aI_sI, aI_sL, aI_sA, aI_sM, aL_sI, aL_sL, aL_sA, aL_sM] at hc10
        have hh10 := hk10.1 62 rfl
        have hg10 := hk10.1 49 rfl
        try dsimp only [Nat.beq, gI_sI, gI_sL, gI_sA, gI_sM, gL_sI, gL_sL, gL_sA, gL_sM, aI_sI, aI_sL, aI_sA, aI_sM, aL_sI, aL_sL, aL_sA, aL_sM] at hh10
        try dsimp only [Nat.beq, gI_sI, gI_sL, gI_sA, gI_sM, gL_sI, gL_sL, gL_sA, gL_sM, aI_sI, aI_sL, aI_sA, aI_sM, aL_sI, aL_sL, aL_sA, aL_sM] at hg10
        have hz10 := congrFun ht10 (gI τ10 14).toNatClampNeg
        try simp only [hR10.e2, hR10.e14, hR10.e15, hR10.e17, hR10.e18, hR10.e36, hR10.e42, hR10.e49, hR10.e62, hR10.a3, hR10.a6, hR10.a51, hR10.a19, hR10.a63, hR10.a64, hR10.hp, hR.e18, hR2.e49, hR4.e18]
        refine ⟨fun h14 => absurd h14 (by decide), fun h14 => ⟨(by exact h14), ?_⟩⟩
        clear h14
        refine hB _ _ _ _ _ _ _ _ (fun m15 hm15 => ?_)
        dsimp only [jgo, jwp, jst, jct, rfd, BtryOf, Nat.beq, lv_args, rlk, rs1, rs2, rdl, rky, rcd, rno, rsw, Value.category, List.filter, List.take, List.drop, List.reverse, List.reverseAux, List.cons_append, List.nil_append, Option.toList, Int.toNat, Int.reduceToNat, if_pos, if_neg, reduceIte, ↓reduceIte, Nat.reduceAdd, Nat.reduceEqDiff, Nat.reduceBEq, beq_self_eq_true, Bool.not_true, Bool.not_false, Bool.and_true, Bool.and_false, Bool.true_and, Bool.false_and, gI_sI, gI_sL, gI_sA, gI_sM, gL_sI, gL_sL, gL_sA, gL_sM, aI_sI, aI_sL, aI_sA, aI_sM, aL_sI, aL_sL, aL_sA, aL_sM, BtryOf_0, BtryOf_29, BtryOf_31, BtryOf_49, BtryOf_60, BtryOf_64, BtryOf_65, oi_0, oi_1, oi_123, oi_20, oi_50, oi_9, Pu_emit, Pj_open, Pj_take, Pu_thing, Pj_want]; try dsimp only
        try simp only [hR10.e2, hR10.e14, hR10.e15, hR10.e17, hR10.e18, hR10.e36, hR10.e42, hR10.e49, hR10.e62, hR10.a3, hR10.a6, hR10.a51, hR10.a19, hR10.a63, hR10.a64, hR10.hp, hR.e18, hR2.e49, hR4.e18]
        refine ⟨⟨(by (repeat (first | exact hR10 | refine Rj.i ?_ rfl | refine Rj.a ?_ rfl | refine Rj.m ?_ | refine Rj.s ?_ (by decide) | refine Rj.o1 ?_ (by first | lia | (dsimp only [Nat.beq, gI_sI, gI_sL, gI_sA, gI_sM, gL_sI, gL_sL, gL_sA, gL_sM, aI_sI, aI_sL, aI_sA, aI_sM, aL_sI, aL_sL, aL_sA, aL_sM]; lia)) | refine Rj.o2 ?_ | refine Rj.f1 ?_ (by first | lia | (dsimp only [Nat.beq, gI_sI, gI_sL, gI_sA, gI_sM, gL_sI, gL_sL, gL_sA, gL_sM, aI_sI, aI_sL, aI_sA, aI_sM, aL_sI, aL_sL, aL_sA, aL_sM]; lia)) | refine Rj.f2 ?_ | refine Rj.fs ?_))), (by first | exact True.intro | rfl), (by first | exact True.intro | rfl), by lia⟩, fun w16 τ16 w16' τ16' hq16 => ?_⟩
        obtain ⟨b16, rfl, rfl, hb16⟩ := hq16
        rcases hb16 with rfl | ⟨rfl, hR16⟩
        · dsimp only [Option.toList, List.cons_append, List.nil_append, Nat.beq, gI_sI, gI_sL, gI_sA, gI_sM, gL_sI, gL_sL, gL_sA, gL_sM, aI_sI, aI_sL, aI_sA, aI_sM, aL_sI, aL_sL, aL_sA, aL_sM]
          try simp only [hR10.e2, hR10.e14, hR10.e15, hR10.e17, hR10.e18, hR10.e36, hR10.e42, hR10.e49, hR10.e62, hR10.a3, hR10.a6, hR10.a51, hR10.a19, hR10.a63, hR10.a64, hR10.hp, hR.e18, hR2.e49, hR4.e18]
          refine ⟨fun h17 => ⟨(by exact h17), ?_⟩, fun h17 => absurd h17 (by decide)⟩
          clear h17
          refine hB _ _ _ _ _ _ _ _ (fun m18 hm18 => ?_)
          dsimp only [jgo, jwp, jst, jct, rfd, BtryOf, Nat.beq, lv_args, rlk, rs1, rs2, rdl, rky, rcd, rno, rsw, Value.category, List.filter, List.take, List.drop, List.reverse, List.reverseAux, List.cons_append, List.nil_append, Option.toList, Int.toNat, Int.reduceToNat, if_pos, if_neg, reduceIte, ↓reduceIte, Nat.reduceAdd, Nat.reduceEqDiff, Nat.reduceBEq, beq_self_eq_true, Bool.not_true, Bool.not_false, Bool.and_true, Bool.and_false, Bool.true_and, Bool.false_and, gI_sI, gI_sL, gI_sA, gI_sM, gL_sI, gL_sL, gL_sA, gL_sM, aI_sI, aI_sL, aI_sA, aI_sM, aL_sI, aL_sL, aL_sA, aL_sM, BtryOf_0, BtryOf_29, BtryOf_31, BtryOf_49, BtryOf_60, BtryOf_64, BtryOf_65, oi_0, oi_1, oi_123, oi_20, oi_50, oi_9, Pu_emit, Pj_open, Pj_take, Pu_thing, Pj_want]; try dsimp only
          try simp only [hR10.e2, hR10.e14, hR10.e15, hR10.e17, hR10.e18, hR10.e36, hR10.e42, hR10.e49, hR10.e62, hR10.a3, hR10.a6, hR10.a51, hR10.a19, hR10.a63, hR10.a64, hR10.hp, hR.e18, hR2.e49, hR4.e18]
          refine hB _ _ _ _ _ _ _ _ (fun m19 hm19 => ?_)
          dsimp only [jgo, jwp, jst, jct, rfd, BtryOf, Nat.beq, lv_args, rlk, rs1, rs2, rdl, rky, rcd, rno, rsw, Value.category, List.filter, List.take, List.drop, List.reverse, List.reverseAux, List.cons_append, List.nil_append, Option.toList, Int.toNat, Int.reduceToNat, if_pos, if_neg, reduceIte, ↓reduceIte, Nat.reduceAdd, Nat.reduceEqDiff, Nat.reduceBEq, beq_self_eq_true, Bool.not_true, Bool.not_false, Bool.and_true, Bool.and_false, Bool.true_and, Bool.false_and, gI_sI, gI_sL, gI_sA, gI_sM, gL_sI, gL_sL, gL_sA, gL_sM, aI_sI, aI_sL, aI_sA, aI_sM, aL_sI, aL_sL, aL_sA, aL_sM, BtryOf_0, BtryOf_29, BtryOf_31, BtryOf_49, BtryOf_60, BtryOf_64, BtryOf_65, oi_0, oi_1, oi_123, oi_20, oi_50, oi_9, Pu_emit, Pj_open, Pj_take, Pu_thing, Pj_want]; try dsimp only
          try simp only [hR10.e2, hR10.e14, hR10.e15, hR10.e17, hR10.e18, hR10.e36, hR10.e42, hR10.e49, hR10.e62, hR10.a3, hR10.a6, hR10.a51, hR10.a19, hR10.a63, hR10.a64, hR10.hp, hR.e18, hR2.e49, hR4.e18]
          unfold Qj_tryOf
          try dsimp only
          exact ⟨_, rfl, rfl, Or.inl rfl⟩
        · dsimp only [Option.toList, List.cons_append, List.nil_append, Nat.beq, gI_sI, gI_sL, gI_sA, gI_sM, gL_sI, gL_sL, gL_sA, gL_sM, aI_sI, aI_sL, aI_sA, aI_sM, aL_sI, aL_sL, aL_sA, aL_sM]
          try simp only [hR16.e2, hR16.e14, hR16.e15, hR16.e17, hR16.e18, hR16.e36, hR16.e42, hR16.e49, hR16.e62, hR16.a3, hR16.a6, hR16.a51, hR16.a19, hR16.a63, hR16.a64, hR16.hp, hR.e18, hR2.e49, hR4.e18]
          refine ⟨fun h20 => absurd h20 (by decide), fun h20 => ⟨(by exact h20), ?_⟩⟩
          clear h20
          refine hB _ _ _ _ _ _ _ _ (fun m21 hm21 => ?_)
          dsimp only [jgo, jwp, jst, jct, rfd, BtryOf, Nat.beq, lv_args, rlk, rs1, rs2, rdl, rky, rcd, rno, rsw, Value.category, List.filter, List.take, List.drop, List.reverse, List.reverseAux, List.cons_append, List.nil_append, Option.toList, Int.toNat, Int.reduceToNat, if_pos, if_neg, reduceIte, ↓reduceIte, Nat.reduceAdd, Nat.reduceEqDiff, Nat.reduceBEq, beq_self_eq_true, Bool.not_true, Bool.not_false, Bool.and_true, Bool.and_false, Bool.true_and, Bool.false_and, gI_sI, gI_sL, gI_sA, gI_sM, gL_sI, gL_sL, gL_sA, gL_sM, aI_sI, aI_sL, aI_sA, aI_sM, aL_sI, aL_sL, aL_sA, aL_sM, BtryOf_0, BtryOf_29, BtryOf_31, BtryOf_49, BtryOf_60, BtryOf_64, BtryOf_65, oi_0, oi_1, oi_123, oi_20, oi_50, oi_9, Pu_emit, Pj_open, Pj_take, Pu_thing, Pj_want]; try dsimp only
          try simp only [hR16.e2, hR16.e14, hR16.e15, hR16.e17, hR16.e18, hR16.e36, hR16.e42, hR16.e49, hR16.e62, hR16.a3, hR16.a6, hR16.a51, hR16.a19, hR16.a63, hR16.a64, hR16.hp, hR.e18, hR2.e49, hR4.e18]
          refine hB _ _ _ _ _ _ _ _ (fun m22 hm22 => ?_)
          dsimp only [jgo, jwp, jst, jct, rfd, BtryOf, Nat.beq, lv_args, rlk, rs1, rs2, rdl, rky, rcd, rno, rsw, Value.category, List.filter, List.take, List.drop, List.reverse, List.reverseAux, List.cons_append, List.nil_append, Option.toList, Int.toNat, Int.reduceToNat, if_pos, if_neg, reduceIte, ↓reduceIte, Nat.reduceAdd, Nat.reduceEqDiff, Nat.reduceBEq, beq_self_eq_true, Bool.not_true, Bool.not_false, Bool.and_true, Bool.and_false, Bool.true_and, Bool.false_and, gI_sI, gI_sL, gI_sA, gI_sM, gL_sI, gL_sL, gL_sA, gL_sM, aI_sI, aI_sL, aI_sA, aI_sM, aL_sI, aL_sL, aL_sA, aL_sM, BtryOf_0, BtryOf_29, BtryOf_31, BtryOf_49, BtryOf_60, BtryOf_64, BtryOf_65, oi_0, oi_1, oi_123, oi_20, oi_50, oi_9, Pu_emit, Pj_open, Pj_take, Pu_thing, Pj_want]; try dsimp only
          try simp only [hR16.e2, hR16.e14, hR16.e15, hR16.e17, hR16.e18, hR16.e36, hR16.e42, hR16.e49, hR16.e62, hR16.a3, hR16.a6, hR16.a51, hR16.a19, hR16.a63, hR16.a64, hR16.hp, hR.e18, hR2.e49, hR4.e18]
          unfold Qj_tryOf
          try dsimp only
          exact ⟨_, rfl, rfl, Or.inr ⟨rfl, by (repeat (first | exact hR16 | refine Rj.i ?_ rfl | refine Rj.a ?_ rfl | refine Rj.m ?_ | refine Rj.s ?_ (by decide) | refine Rj.o1 ?_ (by first | lia | (dsimp only [Nat.beq, gI_sI, gI_sL, gI_sA, gI_sM, gL_sI, gL_sL, gL_sA, gL_sM, aI_sI, aI_sL, aI_sA, aI_sM, aL_sI, aL_sL, aL_sA, aL_sM]; lia)) | refine Rj.o2 ?_ | refine Rj.f1 ?_ (by first | lia | (dsimp only [Nat.beq, gI_sI, gI_sL, gI_sA, gI_sM, gL_sI, gL_sL, gL_sA, gL_sM, aI_sI, aI_sL, aI_sA, aI_sM, aL_sI, aL_sL, aL_sA, aL_sM]; lia)) | refine Rj.f2 ?_ | refine Rj.fs ?_))⟩⟩
  next => exact hP.elim
def Pj_forOf : JPr := fun A1 A2 σ ρ => match A1, A2 with
  | [], [] => Rj 1 σ ρ ∧ aI σ 3 (gI σ 14).toNatClampNeg = 4
  | _, _ => False
def Qj_forOf : JQr := fun A1 A2 σ ρ w τ w' τ' => match A1, A2 with
  | [], [] => ∃ b : Int32, w = some (.int b) ∧ w' = some (.int b) ∧ (b = 0 ∨ (b = 1 ∧ Rj 1 τ τ'))
  | _, _ => False
set_option maxRecDepth 100000 in
set_option maxHeartbeats 4000000 in
theorem j_forOf : JMet 57 Pj_forOf Qj_forOf := by
  refine JMet.by BforOf [(48, Pj_declaration, Qj_declaration), (20, (fun A1 A2 σ ρ => Pu_emit A1 σ ∧ Pu_emit A2 ρ), (fun A1 A2 σ ρ w τ w' τ' => Qu_emit A1 σ w τ ∧ Qu_emit A2 ρ w' τ')), (27, Pj_expression, Qj_expression), (56, Pj_exps, Qj_exps), (14, Pj_isSign, Qj_isSign), (46, Pj_isTold, Qj_isTold), (36, Pj_open, Qj_open), (17, Pj_take, Qj_take), (35, (fun A1 A2 σ ρ => Pu_thing A1 σ ∧ Pu_thing A2 ρ), (fun A1 A2 σ ρ w τ w' τ' => Qu_thing A1 σ w τ ∧ Qu_thing A2 ρ w' τ')), (18, Pj_want, Qj_want)] rfl (jcc j_declaration (jcc (JMet.u u_emit) (jcc j_expression (jcc j_exps (jcc j_isSign (jcc j_isTold (jcc j_open (jcc j_take (jcc (JMet.u u_thing) (jcc j_want jc0)))))))))) ?_
  intro A1 A2 σ ρ hP K hB hW
  unfold Pj_forOf at hP
  split at hP
  next =>
    obtain ⟨hR, htk⟩ := hP
    have t208 : ∀ (n : Nat) (X Y : RS) (t s k : Int32), Rj 1 X Y → k.toNatClampNeg < (gI X 49).toNatClampNeg → K n 208 [(0, .ref 1000), (1, .int t), (2, .int s), (3, .int k)] [(0, .ref 1000), (1, .int t), (2, .int s), (3, .int k)] [] [] X Y := by
      intro n X Y t s k hR hlk
      refine hB _ _ _ _ _ _ _ _ (fun m1 hm1 => ?_)
      dsimp only [jgo, jwp, jst, jct, rfd, BforOf, Nat.beq, lv_args, rlk, rs1, rs2, rdl, rky, rcd, rno, rsw, Value.category, List.filter, List.take, List.drop, List.reverse, List.reverseAux, List.cons_append, List.nil_append, Option.toList, Int.toNat, Int.reduceToNat, if_pos, if_neg, reduceIte, ↓reduceIte, Nat.reduceAdd, Nat.reduceEqDiff, Nat.reduceBEq, beq_self_eq_true, Bool.not_true, Bool.not_false, Bool.and_true, Bool.and_false, Bool.true_and, Bool.false_and, gI_sI, gI_sL, gI_sA, gI_sM, gL_sI, gL_sL, gL_sA, gL_sM, aI_sI, aI_sL, aI_sA, aI_sM, aL_sI, aL_sL, aL_sA, aL_sM, BforOf_0, BforOf_29, BforOf_38, BforOf_40, BforOf_47, BforOf_55, BforOf_57, BforOf_66, BforOf_73, BforOf_75, BforOf_84, BforOf_86, BforOf_109, BforOf_113, BforOf_114, BforOf_121, BforOf_128, BforOf_130, BforOf_151, BforOf_155, BforOf_156, BforOf_174, BforOf_176, BforOf_199, BforOf_206, BforOf_208, BforOf_217, BforOf_219, oi_0, oi_1, oi_20, oi_32, oi_33, oi_34, oi_35, oi_40, oi_41, oi_59, oi_6, Pj_declaration, Pu_emit, Pj_expression, Pj_exps, Pj_isSign, Pj_isTold, Pj_open, Pj_take, Pu_thing, Pj_want]; try dsimp only
      try simp only [hR.e2, hR.e14, hR.e15, hR.e17, hR.e18, hR.e36, hR.e42, hR.e49, hR.e62, hR.a3, hR.a6, hR.a51, hR.a19, hR.a63, hR.a64, hR.hp]
      refine ⟨⟨(Rj.w (md := 1) (by (repeat (first | exact hR | refine Rj.i ?_ rfl | refine Rj.a ?_ rfl | refine Rj.m ?_ | refine Rj.s ?_ (by decide) | refine Rj.o1 ?_ (by first | lia | (dsimp only [Nat.beq, gI_sI, gI_sL, gI_sA, gI_sM, gL_sI, gL_sL, gL_sA, gL_sM, aI_sI, aI_sL, aI_sA, aI_sM, aL_sI, aL_sL, aL_sA, aL_sM]; lia)) | refine Rj.o2 ?_ | refine Rj.f1 ?_ (by first | lia | (dsimp only [Nat.beq, gI_sI, gI_sL, gI_sA, gI_sM, gL_sI, gL_sL, gL_sA, gL_sM, aI_sI, aI_sL, aI_sA, aI_sM, aL_sI, aL_sL, aL_sA, aL_sM]; lia)) | refine Rj.f2 ?_ | refine Rj.fs ?_)))), (by first | exact True.intro | rfl)⟩, fun w2 τ2 w2' τ2' hq2 => ?_⟩
      obtain ⟨b2, rfl, rfl, hb2⟩ := hq2
      rcases hb2 with rfl | ⟨rfl, hr2, hk2, hx2⟩
      · dsimp only [Option.toList, List.cons_append, List.nil_append, Nat.beq, gI_sI, gI_sL, gI_sA, gI_sM, gL_sI, gL_sL, gL_sA, gL_sM, aI_sI, aI_sL, aI_sA, aI_sM, aL_sI, aL_sL, aL_sA, aL_sM]
        try simp only [hR.e2, hR.e14, hR.e15, hR.e17, hR.e18, hR.e36, hR.e42, hR.e49, hR.e62, hR.a3, hR.a6, hR.a51, hR.a19, hR.a63, hR.a64, hR.hp]
        refine ⟨fun h3 => absurd h3 (by decide), fun h3 => ⟨(by exact h3), ?_⟩⟩
        clear h3
        refine hB _ _ _ _ _ _ _ _ (fun m4 hm4 => ?_)
        dsimp only [jgo, jwp, jst, jct, rfd, BforOf, Nat.beq, lv_args, rlk, rs1, rs2, rdl, rky, rcd, rno, rsw, Value.category, List.filter, List.take, List.drop, List.reverse, List.reverseAux, List.cons_append, List.nil_append, Option.toList, Int.toNat, Int.reduceToNat, if_pos, if_neg, reduceIte, ↓reduceIte, Nat.reduceAdd, Nat.reduceEqDiff, Nat.reduceBEq, beq_self_eq_true, Bool.not_true, Bool.not_false, Bool.and_true, Bool.and_false, Bool.true_and, Bool.false_and, gI_sI, gI_sL, gI_sA, gI_sM, gL_sI, gL_sL, gL_sA, gL_sM, aI_sI, aI_sL, aI_sA, aI_sM, aL_sI, aL_sL, aL_sA, aL_sM, BforOf_0, BforOf_29, BforOf_38, BforOf_40, BforOf_47, BforOf_55, BforOf_57, BforOf_66, BforOf_73, BforOf_75, BforOf_84, BforOf_86, BforOf_109, BforOf_113, BforOf_114, BforOf_121, BforOf_128, BforOf_130, BforOf_151, BforOf_155, BforOf_156, BforOf_174, BforOf_176, BforOf_199, BforOf_206, BforOf_208, BforOf_217, BforOf_219, oi_0, oi_1, oi_20, oi_32, oi_33, oi_34, oi_35, oi_40, oi_41, oi_59, oi_6, Pj_declaration, Pu_emit, Pj_expression, Pj_exps, Pj_isSign, Pj_isTold, Pj_open, Pj_take, Pu_thing, Pj_want]; try dsimp only
        try simp only [hR.e2, hR.e14, hR.e15, hR.e17, hR.e18, hR.e36, hR.e42, hR.e49, hR.e62, hR.a3, hR.a6, hR.a51, hR.a19, hR.a63, hR.a64, hR.hp]
        unfold Qj_forOf
        try dsimp only
        exact ⟨_, rfl, rfl, Or.inl rfl⟩
      · dsimp only [Option.toList, List.cons_append, List.nil_append, Nat.beq, gI_sI, gI_sL, gI_sA, gI_sM, gL_sI, gL_sL, gL_sA, gL_sM, aI_sI, aI_sL, aI_sA, aI_sM, aL_sI, aL_sL, aL_sA, aL_sM]
        have hR2 : Rj 1 τ2 τ2' := hr2 _ (by (repeat (first | exact hR | refine Rj.i ?_ rfl | refine Rj.a ?_ rfl | refine Rj.m ?_ | refine Rj.s ?_ (by decide) | refine Rj.o1 ?_ (by first | lia | (dsimp only [Nat.beq, gI_sI, gI_sL, gI_sA, gI_sM, gL_sI, gL_sL, gL_sA, gL_sM, aI_sI, aI_sL, aI_sA, aI_sM, aL_sI, aL_sL, aL_sA, aL_sM]; lia)) | refine Rj.o2 ?_ | refine Rj.f1 ?_ (by first | lia | (dsimp only [Nat.beq, gI_sI, gI_sL, gI_sA, gI_sM, gL_sI, gL_sL, gL_sA, gL_sM, aI_sI, aI_sL, aI_sA, aI_sM, aL_sI, aL_sL, aL_sA, aL_sM]; lia)) | refine Rj.f2 ?_ | refine Rj.fs ?_)))
        have ht2 := hk2.2 3 rfl
        have hc2 := hk2.1 2 rfl
        try dsimp only [Nat.beq, gI_sI, gI_sL, gI_sA, gI_sM, gL_sI, gL_sL, gL_sA, gL_sM, aI_sI, aI_sL, aI_sA, aI_sM, aL_sI, aL_sL, aL_sA, aL_sM] at hx2
        try dsimp only [Nat.beq, gI_sI, gI_sL, gI_sA, gI_sM, gL_sI, gL_sL, gL_sA, gL_sM, aI_sI, aI_sL, aI_sA, aI_sM, aL_sI, aL_sL, aL_sA, aL_sM] at ht2
        try dsimp only [Nat.beq, gI_sI, gI_sL, gI_sA, gI_sM, gL_sI, gL_sL, gL_sA, gL_sM, aI_sI, aI_sL, aI_sA, aI_sM, aL_sI, aL_sL, aL_sA, aL_sM] at hc2
        have hh2 := hk2.1 62 rfl
        have hg2 := hk2.1 49 rfl
        try dsimp only [Nat.beq, gI_sI, gI_sL, gI_sA, gI_sM, gL_sI, gL_sL, gL_sA, gL_sM, aI_sI, aI_sL, aI_sA, aI_sM, aL_sI, aL_sL, aL_sA, aL_sM] at hh2
        try dsimp only [Nat.beq, gI_sI, gI_sL, gI_sA, gI_sM, gL_sI, gL_sL, gL_sA, gL_sM, aI_sI, aI_sL, aI_sA, aI_sM, aL_sI, aL_sL, aL_sA, aL_sM] at hg2
        have hz2 := congrFun ht2 (gI τ2 14).toNatClampNeg
        try simp only [hR2.e2, hR2.e14, hR2.e15, hR2.e17, hR2.e18, hR2.e36, hR2.e42, hR2.e49, hR2.e62, hR2.a3, hR2.a6, hR2.a51, hR2.a19, hR2.a63, hR2.a64, hR2.hp]
        refine ⟨fun h5 => ⟨(by exact h5), ?_⟩, fun h5 => absurd h5 (by decide)⟩
        clear h5
        refine hB _ _ _ _ _ _ _ _ (fun m6 hm6 => ?_)
        dsimp only [jgo, jwp, jst, jct, rfd, BforOf, Nat.beq, lv_args, rlk, rs1, rs2, rdl, rky, rcd, rno, rsw, Value.category, List.filter, List.take, List.drop, List.reverse, List.reverseAux, List.cons_append, List.nil_append, Option.toList, Int.toNat, Int.reduceToNat, if_pos, if_neg, reduceIte, ↓reduceIte, Nat.reduceAdd, Nat.reduceEqDiff, Nat.reduceBEq, beq_self_eq_true, Bool.not_true, Bool.not_false, Bool.and_true, Bool.and_false, Bool.true_and, Bool.false_and, gI_sI, gI_sL, gI_sA, gI_sM, gL_sI, gL_sL, gL_sA, gL_sM, aI_sI, aI_sL, aI_sA, aI_sM, aL_sI, aL_sL, aL_sA, aL_sM, BforOf_0, BforOf_29, BforOf_38, BforOf_40, BforOf_47, BforOf_55, BforOf_57, BforOf_66, BforOf_73, BforOf_75, BforOf_84, BforOf_86, BforOf_109, BforOf_113, BforOf_114, BforOf_121, BforOf_128, BforOf_130, BforOf_151, BforOf_155, BforOf_156, BforOf_174, BforOf_176, BforOf_199, BforOf_206, BforOf_208, BforOf_217, BforOf_219, oi_0, oi_1, oi_20, oi_32, oi_33, oi_34, oi_35, oi_40, oi_41, oi_59, oi_6, Pj_declaration, Pu_emit, Pj_expression, Pj_exps, Pj_isSign, Pj_isTold, Pj_open, Pj_take, Pu_thing, Pj_want]; try dsimp only
        try simp only [hR2.e2, hR2.e14, hR2.e15, hR2.e17, hR2.e18, hR2.e36, hR2.e42, hR2.e49, hR2.e62, hR2.a3, hR2.a6, hR2.a51, hR2.a19, hR2.a63, hR2.a64, hR2.hp]
        refine ⟨⟨trivial, trivial⟩, fun w7 τ7 w7' τ7' hq7 => ?_⟩
        obtain ⟨⟨rfl, hE7⟩, rfl, hF7⟩ := hq7
        have hR7 : Rj 1 τ7 τ7' := Rj.em (by (repeat (first | exact hR2 | refine Rj.i ?_ rfl | refine Rj.a ?_ rfl | refine Rj.m ?_ | refine Rj.s ?_ (by decide) | refine Rj.o1 ?_ (by first | lia | (dsimp only [Nat.beq, gI_sI, gI_sL, gI_sA, gI_sM, gL_sI, gL_sL, gL_sA, gL_sM, aI_sI, aI_sL, aI_sA, aI_sM, aL_sI, aL_sL, aL_sA, aL_sM]; lia)) | refine Rj.o2 ?_ | refine Rj.f1 ?_ (by first | lia | (dsimp only [Nat.beq, gI_sI, gI_sL, gI_sA, gI_sM, gL_sI, gL_sL, gL_sA, gL_sM, aI_sI, aI_sL, aI_sA, aI_sM, aL_sI, aL_sL, aL_sA, aL_sM]; lia)) | refine Rj.f2 ?_ | refine Rj.fs ?_))) hE7 hF7 (by first | exact fun _ => rfl | exact fun q => absurd q (by decide))
        have hp7 := hE7.1 14 (by decide)
        have ho7 := hE7.1 29 (by decide)
        have hh7 := hE7.1 62 (by decide)
        have hg7 := hE7.1 49 (by decide)
        have hw7 := hE7.1 34 (by decide)
        have hv7 := hF7.1 34 (by decide)
        have ht7 := hE7.2.2.2.2.1 3 (by decide)
        try dsimp only [Nat.beq, gI_sI, gI_sL, gI_sA, gI_sM, gL_sI, gL_sL, gL_sA, gL_sM, aI_sI, aI_sL, aI_sA, aI_sM, aL_sI, aL_sL, aL_sA, aL_sM] at hp7
        try dsimp only [Nat.beq, gI_sI, gI_sL, gI_sA, gI_sM, gL_sI, gL_sL, gL_sA, gL_sM, aI_sI, aI_sL, aI_sA, aI_sM, aL_sI, aL_sL, aL_sA, aL_sM] at ho7
        try dsimp only [Nat.beq, gI_sI, gI_sL, gI_sA, gI_sM, gL_sI, gL_sL, gL_sA, gL_sM, aI_sI, aI_sL, aI_sA, aI_sM, aL_sI, aL_sL, aL_sA, aL_sM] at hh7
        try dsimp only [Nat.beq, gI_sI, gI_sL, gI_sA, gI_sM, gL_sI, gL_sL, gL_sA, gL_sM, aI_sI, aI_sL, aI_sA, aI_sM, aL_sI, aL_sL, aL_sA, aL_sM] at hg7
        try dsimp only [Nat.beq, gI_sI, gI_sL, gI_sA, gI_sM, gL_sI, gL_sL, gL_sA, gL_sM, aI_sI, aI_sL, aI_sA, aI_sM, aL_sI, aL_sL, aL_sA, aL_sM] at hw7
        try dsimp only [Nat.beq, gI_sI, gI_sL, gI_sA, gI_sM, gL_sI, gL_sL, gL_sA, gL_sM, aI_sI, aI_sL, aI_sA, aI_sM, aL_sI, aL_sL, aL_sA, aL_sM] at hv7
        try dsimp only [Nat.beq, gI_sI, gI_sL, gI_sA, gI_sM, gL_sI, gL_sL, gL_sA, gL_sM, aI_sI, aI_sL, aI_sA, aI_sM, aL_sI, aL_sL, aL_sA, aL_sM] at ht7
        have hz7 := congrFun ht7 (gI τ7 14).toNatClampNeg
        dsimp only [Option.toList, List.cons_append, List.nil_append, Nat.beq, gI_sI, gI_sL, gI_sA, gI_sM, gL_sI, gL_sL, gL_sA, gL_sM, aI_sI, aI_sL, aI_sA, aI_sM, aL_sI, aL_sL, aL_sA, aL_sM]
        try simp only [hR7.e2, hR7.e14, hR7.e15, hR7.e17, hR7.e18, hR7.e36, hR7.e42, hR7.e49, hR7.e62, hR7.a3, hR7.a6, hR7.a51, hR7.a19, hR7.a63, hR7.a64, hR7.hp, hR2.e18]
        intro p8 q8
        try simp only [hR7.e2, hR7.e14, hR7.e15, hR7.e17, hR7.e18, hR7.e36, hR7.e42, hR7.e49, hR7.e62, hR7.a3, hR7.a6, hR7.a51, hR7.a19, hR7.a63, hR7.a64, hR7.hp, hR2.e18]
        refine ⟨⟨(by (repeat (first | exact hR7 | refine Rj.i ?_ rfl | refine Rj.a ?_ rfl | refine Rj.m ?_ | refine Rj.s ?_ (by decide) | refine Rj.o1 ?_ (by first | lia | (dsimp only [Nat.beq, gI_sI, gI_sL, gI_sA, gI_sM, gL_sI, gL_sL, gL_sA, gL_sM, aI_sI, aI_sL, aI_sA, aI_sM, aL_sI, aL_sL, aL_sA, aL_sM]; lia)) | refine Rj.o2 ?_ | refine Rj.f1 ?_ (by first | lia | (dsimp only [Nat.beq, gI_sI, gI_sL, gI_sA, gI_sM, gL_sI, gL_sL, gL_sA, gL_sM, aI_sI, aI_sL, aI_sA, aI_sM, aL_sI, aL_sL, aL_sA, aL_sM]; lia)) | refine Rj.f2 ?_ | refine Rj.fs ?_))), (by first | exact True.intro | rfl), (by first | exact True.intro | rfl), by lia⟩, fun w9 τ9 w9' τ9' hq9 => ?_⟩
        obtain ⟨b9, rfl, rfl, hb9⟩ := hq9
        rcases hb9 with rfl | ⟨rfl, hR9⟩
        · dsimp only [Option.toList, List.cons_append, List.nil_append, Nat.beq, gI_sI, gI_sL, gI_sA, gI_sM, gL_sI, gL_sL, gL_sA, gL_sM, aI_sI, aI_sL, aI_sA, aI_sM, aL_sI, aL_sL, aL_sA, aL_sM]
          try simp only [hR7.e2, hR7.e14, hR7.e15, hR7.e17, hR7.e18, hR7.e36, hR7.e42, hR7.e49, hR7.e62, hR7.a3, hR7.a6, hR7.a51, hR7.a19, hR7.a63, hR7.a64, hR7.hp, hR2.e18]
          unfold Qj_forOf
          try dsimp only
          exact ⟨_, rfl, rfl, Or.inl rfl⟩
        · dsimp only [Option.toList, List.cons_append, List.nil_append, Nat.beq, gI_sI, gI_sL, gI_sA, gI_sM, gL_sI, gL_sL, gL_sA, gL_sM, aI_sI, aI_sL, aI_sA, aI_sM, aL_sI, aL_sL, aL_sA, aL_sM]
          try simp only [hR9.e2, hR9.e14, hR9.e15, hR9.e17, hR9.e18, hR9.e36, hR9.e42, hR9.e49, hR9.e62, hR9.a3, hR9.a6, hR9.a51, hR9.a19, hR9.a63, hR9.a64, hR9.hp, hR2.e18]
          unfold Qj_forOf
          try dsimp only
          exact ⟨_, rfl, rfl, Or.inr ⟨rfl, by (repeat (first | exact hR9 | refine Rj.i ?_ rfl | refine Rj.a ?_ rfl | refine Rj.m ?_ | refine Rj.s ?_ (by decide) | refine Rj.o1 ?_ (by first | lia | (dsimp only [Nat.beq, gI_sI, gI_sL, gI_sA, gI_sM, gL_sI, gL_sL, gL_sA, gL_sM, aI_sI, aI_sL, aI_sA, aI_sM, aL_sI, aL_sL, aL_sA, aL_sM]; lia)) | refine Rj.o2 ?_ | refine Rj.f1 ?_ (by first | lia | (dsimp only [Nat.beq, gI_sI, gI_sL, gI_sA, gI_sM, gL_sI, gL_sL, gL_sA, gL_sM, aI_sI, aI_sL, aI_sA, aI_sM, aL_sI, aL_sL, aL_sA, aL_sM]; lia)) | refine Rj.f2 ?_ | refine Rj.fs ?_))⟩⟩
    have t130 : ∀ (n : Nat) (X Y : RS) (t s k c : Int32), Rj 1 X Y → k.toNatClampNeg < (gI X 49).toNatClampNeg → K n 130 [(0, .ref 1000), (1, .int t), (2, .int s), (3, .int k), (4, .int c)] [(0, .ref 1000), (1, .int t), (2, .int s), (3, .int k), (4, .int c)] [] [] X Y := by
      intro n X Y t s k c hR hlk
      refine hB _ _ _ _ _ _ _ _ (fun m1 hm1 => ?_)
      dsimp only [jgo, jwp, jst, jct, rfd, BforOf, Nat.beq, lv_args, rlk, rs1, rs2, rdl, rky, rcd, rno, rsw, Value.category, List.filter, List.take, List.drop, List.reverse, List.reverseAux, List.cons_append, List.nil_append, Option.toList, Int.toNat, Int.reduceToNat, if_pos, if_neg, reduceIte, ↓reduceIte, Nat.reduceAdd, Nat.reduceEqDiff, Nat.reduceBEq, beq_self_eq_true, Bool.not_true, Bool.not_false, Bool.and_true, Bool.and_false, Bool.true_and, Bool.false_and, gI_sI, gI_sL, gI_sA, gI_sM, gL_sI, gL_sL, gL_sA, gL_sM, aI_sI, aI_sL, aI_sA, aI_sM, aL_sI, aL_sL, aL_sA, aL_sM, BforOf_0, BforOf_29, BforOf_38, BforOf_40, BforOf_47, BforOf_55, BforOf_57, BforOf_66, BforOf_73, BforOf_75, BforOf_84, BforOf_86, BforOf_109, BforOf_113, BforOf_114, BforOf_121, BforOf_128, BforOf_130, BforOf_151, BforOf_155, BforOf_156, BforOf_174, BforOf_176, BforOf_199, BforOf_206, BforOf_208, BforOf_217, BforOf_219, oi_0, oi_1, oi_20, oi_32, oi_33, oi_34, oi_35, oi_40, oi_41, oi_59, oi_6, Pj_declaration, Pu_emit, Pj_expression, Pj_exps, Pj_isSign, Pj_isTold, Pj_open, Pj_take, Pu_thing, Pj_want]; try dsimp only
      try simp only [hR.e2, hR.e14, hR.e15, hR.e17, hR.e18, hR.e36, hR.e42, hR.e49, hR.e62, hR.a3, hR.a6, hR.a51, hR.a19, hR.a63, hR.a64, hR.hp]
      refine ⟨⟨trivial, trivial⟩, fun w2 τ2 w2' τ2' hq2 => ?_⟩
      obtain ⟨⟨rfl, hE2⟩, rfl, hF2⟩ := hq2
      have hR2 : Rj 1 τ2 τ2' := Rj.em (by (repeat (first | exact hR | refine Rj.i ?_ rfl | refine Rj.a ?_ rfl | refine Rj.m ?_ | refine Rj.s ?_ (by decide) | refine Rj.o1 ?_ (by first | lia | (dsimp only [Nat.beq, gI_sI, gI_sL, gI_sA, gI_sM, gL_sI, gL_sL, gL_sA, gL_sM, aI_sI, aI_sL, aI_sA, aI_sM, aL_sI, aL_sL, aL_sA, aL_sM]; lia)) | refine Rj.o2 ?_ | refine Rj.f1 ?_ (by first | lia | (dsimp only [Nat.beq, gI_sI, gI_sL, gI_sA, gI_sM, gL_sI, gL_sL, gL_sA, gL_sM, aI_sI, aI_sL, aI_sA, aI_sM, aL_sI, aL_sL, aL_sA, aL_sM]; lia)) | refine Rj.f2 ?_ | refine Rj.fs ?_))) hE2 hF2 (by first | exact fun _ => rfl | exact fun q => absurd q (by decide))
      have hp2 := hE2.1 14 (by decide)
      have ho2 := hE2.1 29 (by decide)
      have hh2 := hE2.1 62 (by decide)
      have hg2 := hE2.1 49 (by decide)
      have hw2 := hE2.1 34 (by decide)
      have hv2 := hF2.1 34 (by decide)
      have ht2 := hE2.2.2.2.2.1 3 (by decide)
      try dsimp only [Nat.beq, gI_sI, gI_sL, gI_sA, gI_sM, gL_sI, gL_sL, gL_sA, gL_sM, aI_sI, aI_sL, aI_sA, aI_sM, aL_sI, aL_sL, aL_sA, aL_sM] at hp2
      try dsimp only [Nat.beq, gI_sI, gI_sL, gI_sA, gI_sM, gL_sI, gL_sL, gL_sA, gL_sM, aI_sI, aI_sL, aI_sA, aI_sM, aL_sI, aL_sL, aL_sA, aL_sM] at ho2
      try dsimp only [Nat.beq, gI_sI, gI_sL, gI_sA, gI_sM, gL_sI, gL_sL, gL_sA, gL_sM, aI_sI, aI_sL, aI_sA, aI_sM, aL_sI, aL_sL, aL_sA, aL_sM] at hh2
      try dsimp only [Nat.beq, gI_sI, gI_sL, gI_sA, gI_sM, gL_sI, gL_sL, gL_sA, gL_sM, aI_sI, aI_sL, aI_sA, aI_sM, aL_sI, aL_sL, aL_sA, aL_sM] at hg2
      try dsimp only [Nat.beq, gI_sI, gI_sL, gI_sA, gI_sM, gL_sI, gL_sL, gL_sA, gL_sM, aI_sI, aI_sL, aI_sA, aI_sM, aL_sI, aL_sL, aL_sA, aL_sM] at hw2
      try dsimp only [Nat.beq, gI_sI, gI_sL, gI_sA, gI_sM, gL_sI, gL_sL, gL_sA, gL_sM, aI_sI, aI_sL, aI_sA, aI_sM, aL_sI, aL_sL, aL_sA, aL_sM] at hv2
      try dsimp only [Nat.beq, gI_sI, gI_sL, gI_sA, gI_sM, gL_sI, gL_sL, gL_sA, gL_sM, aI_sI, aI_sL, aI_sA, aI_sM, aL_sI, aL_sL, aL_sA, aL_sM] at ht2
      have hz2 := congrFun ht2 (gI τ2 14).toNatClampNeg
      dsimp only [Option.toList, List.cons_append, List.nil_append, Nat.beq, gI_sI, gI_sL, gI_sA, gI_sM, gL_sI, gL_sL, gL_sA, gL_sM, aI_sI, aI_sL, aI_sA, aI_sM, aL_sI, aL_sL, aL_sA, aL_sM]
      try simp only [hR2.e2, hR2.e14, hR2.e15, hR2.e17, hR2.e18, hR2.e36, hR2.e42, hR2.e49, hR2.e62, hR2.a3, hR2.a6, hR2.a51, hR2.a19, hR2.a63, hR2.a64, hR2.hp, hR.e18]
      refine ⟨fun h3 => ⟨(by exact h3), ?_⟩, fun h3 => ⟨(by exact h3), ?_⟩⟩
      · refine hB _ _ _ _ _ _ _ _ (fun m4 hm4 => ?_)
        dsimp only [jgo, jwp, jst, jct, rfd, BforOf, Nat.beq, lv_args, rlk, rs1, rs2, rdl, rky, rcd, rno, rsw, Value.category, List.filter, List.take, List.drop, List.reverse, List.reverseAux, List.cons_append, List.nil_append, Option.toList, Int.toNat, Int.reduceToNat, if_pos, if_neg, reduceIte, ↓reduceIte, Nat.reduceAdd, Nat.reduceEqDiff, Nat.reduceBEq, beq_self_eq_true, Bool.not_true, Bool.not_false, Bool.and_true, Bool.and_false, Bool.true_and, Bool.false_and, gI_sI, gI_sL, gI_sA, gI_sM, gL_sI, gL_sL, gL_sA, gL_sM, aI_sI, aI_sL, aI_sA, aI_sM, aL_sI, aL_sL, aL_sA, aL_sM, BforOf_0, BforOf_29, BforOf_38, BforOf_40, BforOf_47, BforOf_55, BforOf_57, BforOf_66, BforOf_73, BforOf_75, BforOf_84, BforOf_86, BforOf_109, BforOf_113, BforOf_114, BforOf_121, BforOf_128, BforOf_130, BforOf_151, BforOf_155, BforOf_156, BforOf_174, BforOf_176, BforOf_199, BforOf_206, BforOf_208, BforOf_217, BforOf_219, oi_0, oi_1, oi_20, oi_32, oi_33, oi_34, oi_35, oi_40, oi_41, oi_59, oi_6, Pj_declaration, Pu_emit, Pj_expression, Pj_exps, Pj_isSign, Pj_isTold, Pj_open, Pj_take, Pu_thing, Pj_want]; try dsimp only
        try simp only [hR2.e2, hR2.e14, hR2.e15, hR2.e17, hR2.e18, hR2.e36, hR2.e42, hR2.e49, hR2.e62, hR2.a3, hR2.a6, hR2.a51, hR2.a19, hR2.a63, hR2.a64, hR2.hp, hR.e18]
        refine hB _ _ _ _ _ _ _ _ (fun m5 hm5 => ?_)
        dsimp only [jgo, jwp, jst, jct, rfd, BforOf, Nat.beq, lv_args, rlk, rs1, rs2, rdl, rky, rcd, rno, rsw, Value.category, List.filter, List.take, List.drop, List.reverse, List.reverseAux, List.cons_append, List.nil_append, Option.toList, Int.toNat, Int.reduceToNat, if_pos, if_neg, reduceIte, ↓reduceIte, Nat.reduceAdd, Nat.reduceEqDiff, Nat.reduceBEq, beq_self_eq_true, Bool.not_true, Bool.not_false, Bool.and_true, Bool.and_false, Bool.true_and, Bool.false_and, gI_sI, gI_sL, gI_sA, gI_sM, gL_sI, gL_sL, gL_sA, gL_sM, aI_sI, aI_sL, aI_sA, aI_sM, aL_sI, aL_sL, aL_sA, aL_sM, BforOf_0, BforOf_29, BforOf_38, BforOf_40, BforOf_47, BforOf_55, BforOf_57, BforOf_66, BforOf_73, BforOf_75, BforOf_84, BforOf_86, BforOf_109, BforOf_113, BforOf_114, BforOf_121, BforOf_128, BforOf_130, BforOf_151, BforOf_155, BforOf_156, BforOf_174, BforOf_176, BforOf_199, BforOf_206, BforOf_208, BforOf_217, BforOf_219, oi_0, oi_1, oi_20, oi_32, oi_33, oi_34, oi_35, oi_40, oi_41, oi_59, oi_6, Pj_declaration, Pu_emit, Pj_expression, Pj_exps, Pj_isSign, Pj_isTold, Pj_open, Pj_take, Pu_thing, Pj_want]; try dsimp only
        try simp only [hR2.e2, hR2.e14, hR2.e15, hR2.e17, hR2.e18, hR2.e36, hR2.e42, hR2.e49, hR2.e62, hR2.a3, hR2.a6, hR2.a51, hR2.a19, hR2.a63, hR2.a64, hR2.hp, hR.e18]
        intro p6 q6
        try simp only [hR2.e2, hR2.e14, hR2.e15, hR2.e17, hR2.e18, hR2.e36, hR2.e42, hR2.e49, hR2.e62, hR2.a3, hR2.a6, hR2.a51, hR2.a19, hR2.a63, hR2.a64, hR2.hp, hR.e18]
        intro p7 q7
        try simp only [hR2.e2, hR2.e14, hR2.e15, hR2.e17, hR2.e18, hR2.e36, hR2.e42, hR2.e49, hR2.e62, hR2.a3, hR2.a6, hR2.a51, hR2.a19, hR2.a63, hR2.a64, hR2.hp, hR.e18]
        refine ⟨⟨(Rj.w (md := 1) (by (repeat (first | exact hR2 | refine Rj.i ?_ rfl | refine Rj.a ?_ rfl | refine Rj.m ?_ | refine Rj.s ?_ (by decide) | refine Rj.o1 ?_ (by first | lia | (dsimp only [Nat.beq, gI_sI, gI_sL, gI_sA, gI_sM, gL_sI, gL_sL, gL_sA, gL_sM, aI_sI, aI_sL, aI_sA, aI_sM, aL_sI, aL_sL, aL_sA, aL_sM]; lia)) | refine Rj.o2 ?_ | refine Rj.f1 ?_ (by first | lia | (dsimp only [Nat.beq, gI_sI, gI_sL, gI_sA, gI_sM, gL_sI, gL_sL, gL_sA, gL_sM, aI_sI, aI_sL, aI_sA, aI_sM, aL_sI, aL_sL, aL_sA, aL_sM]; lia)) | refine Rj.f2 ?_ | refine Rj.fs ?_)))), (by first | exact True.intro | rfl)⟩, fun w8 τ8 w8' τ8' hq8 => ?_⟩
        obtain ⟨b8, rfl, rfl, hb8⟩ := hq8
        rcases hb8 with rfl | ⟨rfl, hr8, hk8, hx8⟩
        · dsimp only [Option.toList, List.cons_append, List.nil_append, Nat.beq, gI_sI, gI_sL, gI_sA, gI_sM, gL_sI, gL_sL, gL_sA, gL_sM, aI_sI, aI_sL, aI_sA, aI_sM, aL_sI, aL_sL, aL_sA, aL_sM]
          try simp only [hR2.e2, hR2.e14, hR2.e15, hR2.e17, hR2.e18, hR2.e36, hR2.e42, hR2.e49, hR2.e62, hR2.a3, hR2.a6, hR2.a51, hR2.a19, hR2.a63, hR2.a64, hR2.hp, hR.e18]
          refine ⟨fun h9 => absurd h9 (by decide), fun h9 => ⟨(by exact h9), ?_⟩⟩
          clear h9
          refine hB _ _ _ _ _ _ _ _ (fun m10 hm10 => ?_)
          dsimp only [jgo, jwp, jst, jct, rfd, BforOf, Nat.beq, lv_args, rlk, rs1, rs2, rdl, rky, rcd, rno, rsw, Value.category, List.filter, List.take, List.drop, List.reverse, List.reverseAux, List.cons_append, List.nil_append, Option.toList, Int.toNat, Int.reduceToNat, if_pos, if_neg, reduceIte, ↓reduceIte, Nat.reduceAdd, Nat.reduceEqDiff, Nat.reduceBEq, beq_self_eq_true, Bool.not_true, Bool.not_false, Bool.and_true, Bool.and_false, Bool.true_and, Bool.false_and, gI_sI, gI_sL, gI_sA, gI_sM, gL_sI, gL_sL, gL_sA, gL_sM, aI_sI, aI_sL, aI_sA, aI_sM, aL_sI, aL_sL, aL_sA, aL_sM, BforOf_0, BforOf_29, BforOf_38, BforOf_40, BforOf_47, BforOf_55, BforOf_57, BforOf_66, BforOf_73, BforOf_75, BforOf_84, BforOf_86, BforOf_109, BforOf_113, BforOf_114, BforOf_121, BforOf_128, BforOf_130, BforOf_151, BforOf_155, BforOf_156, BforOf_174, BforOf_176, BforOf_199, BforOf_206, BforOf_208, BforOf_217, BforOf_219, oi_0, oi_1, oi_20, oi_32, oi_33, oi_34, oi_35, oi_40, oi_41, oi_59, oi_6, Pj_declaration, Pu_emit, Pj_expression, Pj_exps, Pj_isSign, Pj_isTold, Pj_open, Pj_take, Pu_thing, Pj_want]; try dsimp only
          try simp only [hR2.e2, hR2.e14, hR2.e15, hR2.e17, hR2.e18, hR2.e36, hR2.e42, hR2.e49, hR2.e62, hR2.a3, hR2.a6, hR2.a51, hR2.a19, hR2.a63, hR2.a64, hR2.hp, hR.e18]
          unfold Qj_forOf
          try dsimp only
          exact ⟨_, rfl, rfl, Or.inl rfl⟩
        · dsimp only [Option.toList, List.cons_append, List.nil_append, Nat.beq, gI_sI, gI_sL, gI_sA, gI_sM, gL_sI, gL_sL, gL_sA, gL_sM, aI_sI, aI_sL, aI_sA, aI_sM, aL_sI, aL_sL, aL_sA, aL_sM]
          have hR8 : Rj 1 τ8 τ8' := hr8 _ (by (repeat (first | exact hR2 | refine Rj.i ?_ rfl | refine Rj.a ?_ rfl | refine Rj.m ?_ | refine Rj.s ?_ (by decide) | refine Rj.o1 ?_ (by first | lia | (dsimp only [Nat.beq, gI_sI, gI_sL, gI_sA, gI_sM, gL_sI, gL_sL, gL_sA, gL_sM, aI_sI, aI_sL, aI_sA, aI_sM, aL_sI, aL_sL, aL_sA, aL_sM]; lia)) | refine Rj.o2 ?_ | refine Rj.f1 ?_ (by first | lia | (dsimp only [Nat.beq, gI_sI, gI_sL, gI_sA, gI_sM, gL_sI, gL_sL, gL_sA, gL_sM, aI_sI, aI_sL, aI_sA, aI_sM, aL_sI, aL_sL, aL_sA, aL_sM]; lia)) | refine Rj.f2 ?_ | refine Rj.fs ?_)))
          have ht8 := hk8.2 3 rfl
          have hc8 := hk8.1 2 rfl
          try dsimp only [Nat.beq, gI_sI, gI_sL, gI_sA, gI_sM, gL_sI, gL_sL, gL_sA, gL_sM, aI_sI, aI_sL, aI_sA, aI_sM, aL_sI, aL_sL, aL_sA, aL_sM] at hx8
          try dsimp only [Nat.beq, gI_sI, gI_sL, gI_sA, gI_sM, gL_sI, gL_sL, gL_sA, gL_sM, aI_sI, aI_sL, aI_sA, aI_sM, aL_sI, aL_sL, aL_sA, aL_sM] at ht8
          try dsimp only [Nat.beq, gI_sI, gI_sL, gI_sA, gI_sM, gL_sI, gL_sL, gL_sA, gL_sM, aI_sI, aI_sL, aI_sA, aI_sM, aL_sI, aL_sL, aL_sA, aL_sM] at hc8
          have hh8 := hk8.1 62 rfl
          have hg8 := hk8.1 49 rfl
          try dsimp only [Nat.beq, gI_sI, gI_sL, gI_sA, gI_sM, gL_sI, gL_sL, gL_sA, gL_sM, aI_sI, aI_sL, aI_sA, aI_sM, aL_sI, aL_sL, aL_sA, aL_sM] at hh8
          try dsimp only [Nat.beq, gI_sI, gI_sL, gI_sA, gI_sM, gL_sI, gL_sL, gL_sA, gL_sM, aI_sI, aI_sL, aI_sA, aI_sM, aL_sI, aL_sL, aL_sA, aL_sM] at hg8
          have hz8 := congrFun ht8 (gI τ8 14).toNatClampNeg
          try simp only [hR8.e2, hR8.e14, hR8.e15, hR8.e17, hR8.e18, hR8.e36, hR8.e42, hR8.e49, hR8.e62, hR8.a3, hR8.a6, hR8.a51, hR8.a19, hR8.a63, hR8.a64, hR8.hp, hR.e18]
          refine ⟨fun h11 => ⟨(by exact h11), ?_⟩, fun h11 => absurd h11 (by decide)⟩
          clear h11
          refine hB _ _ _ _ _ _ _ _ (fun m12 hm12 => ?_)
          dsimp only [jgo, jwp, jst, jct, rfd, BforOf, Nat.beq, lv_args, rlk, rs1, rs2, rdl, rky, rcd, rno, rsw, Value.category, List.filter, List.take, List.drop, List.reverse, List.reverseAux, List.cons_append, List.nil_append, Option.toList, Int.toNat, Int.reduceToNat, if_pos, if_neg, reduceIte, ↓reduceIte, Nat.reduceAdd, Nat.reduceEqDiff, Nat.reduceBEq, beq_self_eq_true, Bool.not_true, Bool.not_false, Bool.and_true, Bool.and_false, Bool.true_and, Bool.false_and, gI_sI, gI_sL, gI_sA, gI_sM, gL_sI, gL_sL, gL_sA, gL_sM, aI_sI, aI_sL, aI_sA, aI_sM, aL_sI, aL_sL, aL_sA, aL_sM, BforOf_0, BforOf_29, BforOf_38, BforOf_40, BforOf_47, BforOf_55, BforOf_57, BforOf_66, BforOf_73, BforOf_75, BforOf_84, BforOf_86, BforOf_109, BforOf_113, BforOf_114, BforOf_121, BforOf_128, BforOf_130, BforOf_151, BforOf_155, BforOf_156, BforOf_174, BforOf_176, BforOf_199, BforOf_206, BforOf_208, BforOf_217, BforOf_219, oi_0, oi_1, oi_20, oi_32, oi_33, oi_34, oi_35, oi_40, oi_41, oi_59, oi_6, Pj_declaration, Pu_emit, Pj_expression, Pj_exps, Pj_isSign, Pj_isTold, Pj_open, Pj_take, Pu_thing, Pj_want]; try dsimp only
          try simp only [hR8.e2, hR8.e14, hR8.e15, hR8.e17, hR8.e18, hR8.e36, hR8.e42, hR8.e49, hR8.e62, hR8.a3, hR8.a6, hR8.a51, hR8.a19, hR8.a63, hR8.a64, hR8.hp, hR.e18]
          refine ⟨⟨trivial, trivial⟩, fun w13 τ13 w13' τ13' hq13 => ?_⟩
          obtain ⟨⟨rfl, hE13⟩, rfl, hF13⟩ := hq13
          have hR13 : Rj 1 τ13 τ13' := Rj.em (by (repeat (first | exact hR8 | refine Rj.i ?_ rfl | refine Rj.a ?_ rfl | refine Rj.m ?_ | refine Rj.s ?_ (by decide) | refine Rj.o1 ?_ (by first | lia | (dsimp only [Nat.beq, gI_sI, gI_sL, gI_sA, gI_sM, gL_sI, gL_sL, gL_sA, gL_sM, aI_sI, aI_sL, aI_sA, aI_sM, aL_sI, aL_sL, aL_sA, aL_sM]; lia)) | refine Rj.o2 ?_ | refine Rj.f1 ?_ (by first | lia | (dsimp only [Nat.beq, gI_sI, gI_sL, gI_sA, gI_sM, gL_sI, gL_sL, gL_sA, gL_sM, aI_sI, aI_sL, aI_sA, aI_sM, aL_sI, aL_sL, aL_sA, aL_sM]; lia)) | refine Rj.f2 ?_ | refine Rj.fs ?_))) hE13 hF13 (by first | exact fun _ => rfl | exact fun q => absurd q (by decide))
          have hp13 := hE13.1 14 (by decide)
          have ho13 := hE13.1 29 (by decide)
          have hh13 := hE13.1 62 (by decide)
          have hg13 := hE13.1 49 (by decide)
          have hw13 := hE13.1 34 (by decide)
          have hv13 := hF13.1 34 (by decide)
          have ht13 := hE13.2.2.2.2.1 3 (by decide)
          try dsimp only [Nat.beq, gI_sI, gI_sL, gI_sA, gI_sM, gL_sI, gL_sL, gL_sA, gL_sM, aI_sI, aI_sL, aI_sA, aI_sM, aL_sI, aL_sL, aL_sA, aL_sM] at hp13
          try dsimp only [Nat.beq, gI_sI, gI_sL, gI_sA, gI_sM, gL_sI, gL_sL, gL_sA, gL_sM, aI_sI, aI_sL, aI_sA, aI_sM, aL_sI, aL_sL, aL_sA, aL_sM] at ho13
          try dsimp only [Nat.beq, gI_sI, gI_sL, gI_sA, gI_sM, gL_sI, gL_sL, gL_sA, gL_sM, aI_sI, aI_sL, aI_sA, aI_sM, aL_sI, aL_sL, aL_sA, aL_sM] at hh13
          try dsimp only [Nat.beq, gI_sI, gI_sL, gI_sA, gI_sM, gL_sI, gL_sL, gL_sA, gL_sM, aI_sI, aI_sL, aI_sA, aI_sM, aL_sI, aL_sL, aL_sA, aL_sM] at hg13
          try dsimp only [Nat.beq, gI_sI, gI_sL, gI_sA, gI_sM, gL_sI, gL_sL, gL_sA, gL_sM, aI_sI, aI_sL, aI_sA, aI_sM, aL_sI, aL_sL, aL_sA, aL_sM] at hw13
          try dsimp only [Nat.beq, gI_sI, gI_sL, gI_sA, gI_sM, gL_sI, gL_sL, gL_sA, gL_sM, aI_sI, aI_sL, aI_sA, aI_sM, aL_sI, aL_sL, aL_sA, aL_sM] at hv13
          try dsimp only [Nat.beq, gI_sI, gI_sL, gI_sA, gI_sM, gL_sI, gL_sL, gL_sA, gL_sM, aI_sI, aI_sL, aI_sA, aI_sM, aL_sI, aL_sL, aL_sA, aL_sM] at ht13
          have hz13 := congrFun ht13 (gI τ13 14).toNatClampNeg
          dsimp only [Option.toList, List.cons_append, List.nil_append, Nat.beq, gI_sI, gI_sL, gI_sA, gI_sM, gL_sI, gL_sL, gL_sA, gL_sM, aI_sI, aI_sL, aI_sA, aI_sM, aL_sI, aL_sL, aL_sA, aL_sM]
          try simp only [hR13.e2, hR13.e14, hR13.e15, hR13.e17, hR13.e18, hR13.e36, hR13.e42, hR13.e49, hR13.e62, hR13.a3, hR13.a6, hR13.a51, hR13.a19, hR13.a63, hR13.a64, hR13.hp, hR.e18, hR8.e18]
          intro p14 q14
          try simp only [hR13.e2, hR13.e14, hR13.e15, hR13.e17, hR13.e18, hR13.e36, hR13.e42, hR13.e49, hR13.e62, hR13.a3, hR13.a6, hR13.a51, hR13.a19, hR13.a63, hR13.a64, hR13.hp, hR.e18, hR8.e18]
          refine ⟨⟨(Rj.w (md := 1) (by (repeat (first | exact hR13 | refine Rj.i ?_ rfl | refine Rj.a ?_ rfl | refine Rj.m ?_ | refine Rj.s ?_ (by decide) | refine Rj.o1 ?_ (by first | lia | (dsimp only [Nat.beq, gI_sI, gI_sL, gI_sA, gI_sM, gL_sI, gL_sL, gL_sA, gL_sM, aI_sI, aI_sL, aI_sA, aI_sM, aL_sI, aL_sL, aL_sA, aL_sM]; lia)) | refine Rj.o2 ?_ | refine Rj.f1 ?_ (by first | lia | (dsimp only [Nat.beq, gI_sI, gI_sL, gI_sA, gI_sM, gL_sI, gL_sL, gL_sA, gL_sM, aI_sI, aI_sL, aI_sA, aI_sM, aL_sI, aL_sL, aL_sA, aL_sM]; lia)) | refine Rj.f2 ?_ | refine Rj.fs ?_)))), (by first | exact True.intro | rfl)⟩, fun w15 τ15 w15' τ15' hq15 => ?_⟩
          obtain ⟨b15, rfl, rfl, rfl, rfl, hb15⟩ := hq15
          rcases hb15 with rfl | ⟨rfl, hf15⟩
          · dsimp only [Option.toList, List.cons_append, List.nil_append, Nat.beq, gI_sI, gI_sL, gI_sA, gI_sM, gL_sI, gL_sL, gL_sA, gL_sM, aI_sI, aI_sL, aI_sA, aI_sM, aL_sI, aL_sL, aL_sA, aL_sM]
            try simp only [hR13.e2, hR13.e14, hR13.e15, hR13.e17, hR13.e18, hR13.e36, hR13.e42, hR13.e49, hR13.e62, hR13.a3, hR13.a6, hR13.a51, hR13.a19, hR13.a63, hR13.a64, hR13.hp, hR.e18, hR8.e18]
            refine ⟨fun h16 => absurd h16 (by decide), fun h16 => ⟨(by exact h16), ?_⟩⟩
            clear h16
            refine hB _ _ _ _ _ _ _ _ (fun m17 hm17 => ?_)
            dsimp only [jgo, jwp, jst, jct, rfd, BforOf, Nat.beq, lv_args, rlk, rs1, rs2, rdl, rky, rcd, rno, rsw, Value.category, List.filter, List.take, List.drop, List.reverse, List.reverseAux, List.cons_append, List.nil_append, Option.toList, Int.toNat, Int.reduceToNat, if_pos, if_neg, reduceIte, ↓reduceIte, Nat.reduceAdd, Nat.reduceEqDiff, Nat.reduceBEq, beq_self_eq_true, Bool.not_true, Bool.not_false, Bool.and_true, Bool.and_false, Bool.true_and, Bool.false_and, gI_sI, gI_sL, gI_sA, gI_sM, gL_sI, gL_sL, gL_sA, gL_sM, aI_sI, aI_sL, aI_sA, aI_sM, aL_sI, aL_sL, aL_sA, aL_sM, BforOf_0, BforOf_29, BforOf_38, BforOf_40, BforOf_47, BforOf_55, BforOf_57, BforOf_66, BforOf_73, BforOf_75, BforOf_84, BforOf_86, BforOf_109, BforOf_113, BforOf_114, BforOf_121, BforOf_128, BforOf_130, BforOf_151, BforOf_155, BforOf_156, BforOf_174, BforOf_176, BforOf_199, BforOf_206, BforOf_208, BforOf_217, BforOf_219, oi_0, oi_1, oi_20, oi_32, oi_33, oi_34, oi_35, oi_40, oi_41, oi_59, oi_6, Pj_declaration, Pu_emit, Pj_expression, Pj_exps, Pj_isSign, Pj_isTold, Pj_open, Pj_take, Pu_thing, Pj_want]; try dsimp only
            try simp only [hR13.e2, hR13.e14, hR13.e15, hR13.e17, hR13.e18, hR13.e36, hR13.e42, hR13.e49, hR13.e62, hR13.a3, hR13.a6, hR13.a51, hR13.a19, hR13.a63, hR13.a64, hR13.hp, hR.e18, hR8.e18]
            refine ⟨(by (repeat (first | exact hR13 | refine Rj.i ?_ rfl | refine Rj.a ?_ rfl | refine Rj.m ?_ | refine Rj.s ?_ (by decide) | refine Rj.o1 ?_ (by first | lia | (dsimp only [Nat.beq, gI_sI, gI_sL, gI_sA, gI_sM, gL_sI, gL_sL, gL_sA, gL_sM, aI_sI, aI_sL, aI_sA, aI_sM, aL_sI, aL_sL, aL_sA, aL_sM]; lia)) | refine Rj.o2 ?_ | refine Rj.f1 ?_ (by first | lia | (dsimp only [Nat.beq, gI_sI, gI_sL, gI_sA, gI_sM, gL_sI, gL_sL, gL_sA, gL_sM, aI_sI, aI_sL, aI_sA, aI_sM, aL_sI, aL_sL, aL_sA, aL_sM]; lia)) | refine Rj.f2 ?_ | refine Rj.fs ?_))), fun w18 τ18 w18' τ18' hq18 => ?_⟩
            obtain ⟨b18, rfl, rfl, hb18⟩ := hq18
            rcases hb18 with rfl | ⟨rfl, hR18, hk18⟩
            · dsimp only [Option.toList, List.cons_append, List.nil_append, Nat.beq, gI_sI, gI_sL, gI_sA, gI_sM, gL_sI, gL_sL, gL_sA, gL_sM, aI_sI, aI_sL, aI_sA, aI_sM, aL_sI, aL_sL, aL_sA, aL_sM]
              try simp only [hR13.e2, hR13.e14, hR13.e15, hR13.e17, hR13.e18, hR13.e36, hR13.e42, hR13.e49, hR13.e62, hR13.a3, hR13.a6, hR13.a51, hR13.a19, hR13.a63, hR13.a64, hR13.hp, hR.e18, hR8.e18]
              refine ⟨fun h19 => absurd h19 (by decide), fun h19 => ⟨(by exact h19), ?_⟩⟩
              clear h19
              refine hB _ _ _ _ _ _ _ _ (fun m20 hm20 => ?_)
              dsimp only [jgo, jwp, jst, jct, rfd, BforOf, Nat.beq, lv_args, rlk, rs1, rs2, rdl, rky, rcd, rno, rsw, Value.category, List.filter, List.take, List.drop, List.reverse, List.reverseAux, List.cons_append, List.nil_append, Option.toList, Int.toNat, Int.reduceToNat, if_pos, if_neg, reduceIte, ↓reduceIte, Nat.reduceAdd, Nat.reduceEqDiff, Nat.reduceBEq, beq_self_eq_true, Bool.not_true, Bool.not_false, Bool.and_true, Bool.and_false, Bool.true_and, Bool.false_and, gI_sI, gI_sL, gI_sA, gI_sM, gL_sI, gL_sL, gL_sA, gL_sM, aI_sI, aI_sL, aI_sA, aI_sM, aL_sI, aL_sL, aL_sA, aL_sM, BforOf_0, BforOf_29, BforOf_38, BforOf_40, BforOf_47, BforOf_55, BforOf_57, BforOf_66, BforOf_73, BforOf_75, BforOf_84, BforOf_86, BforOf_109, BforOf_113, BforOf_114, BforOf_121, BforOf_128, BforOf_130, BforOf_151, BforOf_155, BforOf_156, BforOf_174, BforOf_176, BforOf_199, BforOf_206, BforOf_208, BforOf_217, BforOf_219, oi_0, oi_1, oi_20, oi_32, oi_33, oi_34, oi_35, oi_40, oi_41, oi_59, oi_6, Pj_declaration, Pu_emit, Pj_expression, Pj_exps, Pj_isSign, Pj_isTold, Pj_open, Pj_take, Pu_thing, Pj_want]; try dsimp only
              try simp only [hR13.e2, hR13.e14, hR13.e15, hR13.e17, hR13.e18, hR13.e36, hR13.e42, hR13.e49, hR13.e62, hR13.a3, hR13.a6, hR13.a51, hR13.a19, hR13.a63, hR13.a64, hR13.hp, hR.e18, hR8.e18]
              unfold Qj_forOf
              try dsimp only
              exact ⟨_, rfl, rfl, Or.inl rfl⟩
            · dsimp only [Option.toList, List.cons_append, List.nil_append, Nat.beq, gI_sI, gI_sL, gI_sA, gI_sM, gL_sI, gL_sL, gL_sA, gL_sM, aI_sI, aI_sL, aI_sA, aI_sM, aL_sI, aL_sL, aL_sA, aL_sM]
              have hh18 := hk18.1 62 rfl
              have hg18 := hk18.1 49 rfl
              try dsimp only [Nat.beq, gI_sI, gI_sL, gI_sA, gI_sM, gL_sI, gL_sL, gL_sA, gL_sM, aI_sI, aI_sL, aI_sA, aI_sM, aL_sI, aL_sL, aL_sA, aL_sM] at hh18
              try dsimp only [Nat.beq, gI_sI, gI_sL, gI_sA, gI_sM, gL_sI, gL_sL, gL_sA, gL_sM, aI_sI, aI_sL, aI_sA, aI_sM, aL_sI, aL_sL, aL_sA, aL_sM] at hg18
              try simp only [hR18.e2, hR18.e14, hR18.e15, hR18.e17, hR18.e18, hR18.e36, hR18.e42, hR18.e49, hR18.e62, hR18.a3, hR18.a6, hR18.a51, hR18.a19, hR18.a63, hR18.a64, hR18.hp, hR.e18, hR8.e18]
              refine ⟨fun h21 => ⟨(by exact h21), ?_⟩, fun h21 => absurd h21 (by decide)⟩
              clear h21
              exact hW _ 208 [(0, .ref 1000), (1, .int t), (2, .int s), (3, .int k)] [(0, .ref 1000), (1, .int t), (2, .int s), (3, .int k)] _ _ _ _ _ _ (by simp [rdl, rky]) (by simp [rdl, rky]) (t208 _ _ _ t s k (by (repeat (first | exact hR18 | refine Rj.i ?_ rfl | refine Rj.a ?_ rfl | refine Rj.m ?_ | refine Rj.s ?_ (by decide) | refine Rj.o1 ?_ (by first | lia | (dsimp only [Nat.beq, gI_sI, gI_sL, gI_sA, gI_sM, gL_sI, gL_sL, gL_sA, gL_sM, aI_sI, aI_sL, aI_sA, aI_sM, aL_sI, aL_sL, aL_sA, aL_sM]; lia)) | refine Rj.o2 ?_ | refine Rj.f1 ?_ (by first | lia | (dsimp only [Nat.beq, gI_sI, gI_sL, gI_sA, gI_sM, gL_sI, gL_sL, gL_sA, gL_sM, aI_sI, aI_sL, aI_sA, aI_sM, aL_sI, aL_sL, aL_sA, aL_sM]; lia)) | refine Rj.f2 ?_ | refine Rj.fs ?_))) (by first | lia | (dsimp only [Nat.beq, gI_sI, gI_sL, gI_sA, gI_sM, gL_sI, gL_sL, gL_sA, gL_sM, aI_sI, aI_sL, aI_sA, aI_sM, aL_sI, aL_sL, aL_sA, aL_sM]; lia)))
          · dsimp only [Option.toList, List.cons_append, List.nil_append, Nat.beq, gI_sI, gI_sL, gI_sA, gI_sM, gL_sI, gL_sL, gL_sA, gL_sM, aI_sI, aI_sL, aI_sA, aI_sM, aL_sI, aL_sL, aL_sA, aL_sM]
            try dsimp only [Nat.beq, gI_sI, gI_sL, gI_sA, gI_sM, gL_sI, gL_sL, gL_sA, gL_sM, aI_sI, aI_sL, aI_sA, aI_sM, aL_sI, aL_sL, aL_sA, aL_sM] at hf15
            try simp only [hR13.e2, hR13.e14, hR13.e15, hR13.e17, hR13.e18, hR13.e36, hR13.e42, hR13.e49, hR13.e62, hR13.a3, hR13.a6, hR13.a51, hR13.a19, hR13.a63, hR13.a64, hR13.hp, hR.e18, hR8.e18]
            refine ⟨fun h22 => ⟨(by exact h22), ?_⟩, fun h22 => absurd h22 (by decide)⟩
            clear h22
            exact hW _ 208 [(0, .ref 1000), (1, .int t), (2, .int s), (3, .int k)] [(0, .ref 1000), (1, .int t), (2, .int s), (3, .int k)] _ _ _ _ _ _ (by simp [rdl, rky]) (by simp [rdl, rky]) (t208 _ _ _ t s k (by (repeat (first | exact hR13 | refine Rj.i ?_ rfl | refine Rj.a ?_ rfl | refine Rj.m ?_ | refine Rj.s ?_ (by decide) | refine Rj.o1 ?_ (by first | lia | (dsimp only [Nat.beq, gI_sI, gI_sL, gI_sA, gI_sM, gL_sI, gL_sL, gL_sA, gL_sM, aI_sI, aI_sL, aI_sA, aI_sM, aL_sI, aL_sL, aL_sA, aL_sM]; lia)) | refine Rj.o2 ?_ | refine Rj.f1 ?_ (by first | lia | (dsimp only [Nat.beq, gI_sI, gI_sL, gI_sA, gI_sM, gL_sI, gL_sL, gL_sA, gL_sM, aI_sI, aI_sL, aI_sA, aI_sM, aL_sI, aL_sL, aL_sA, aL_sM]; lia)) | refine Rj.f2 ?_ | refine Rj.fs ?_))) (by first | lia | (dsimp only [Nat.beq, gI_sI, gI_sL, gI_sA, gI_sM, gL_sI, gL_sL, gL_sA, gL_sM, aI_sI, aI_sL, aI_sA, aI_sM, aL_sI, aL_sL, aL_sA, aL_sM]; lia)))
      · refine hB _ _ _ _ _ _ _ _ (fun m23 hm23 => ?_)
        dsimp only [jgo, jwp, jst, jct, rfd, BforOf, Nat.beq, lv_args, rlk, rs1, rs2, rdl, rky, rcd, rno, rsw, Value.category, List.filter, List.take, List.drop, List.reverse, List.reverseAux, List.cons_append, List.nil_append, Option.toList, Int.toNat, Int.reduceToNat, if_pos, if_neg, reduceIte, ↓reduceIte, Nat.reduceAdd, Nat.reduceEqDiff, Nat.reduceBEq, beq_self_eq_true, Bool.not_true, Bool.not_false, Bool.and_true, Bool.and_false, Bool.true_and, Bool.false_and, gI_sI, gI_sL, gI_sA, gI_sM, gL_sI, gL_sL, gL_sA, gL_sM, aI_sI, aI_sL, aI_sA, aI_sM, aL_sI, aL_sL, aL_sA, aL_sM, BforOf_0, BforOf_29, BforOf_38, BforOf_40, BforOf_47, BforOf_55, BforOf_57, BforOf_66, BforOf_73, BforOf_75, BforOf_84, BforOf_86, BforOf_109, BforOf_113, BforOf_114, BforOf_121, BforOf_128, BforOf_130, BforOf_151, BforOf_155, BforOf_156, BforOf_174, BforOf_176, BforOf_199, BforOf_206, BforOf_208, BforOf_217, BforOf_219, oi_0, oi_1, oi_20, oi_32, oi_33, oi_34, oi_35, oi_40, oi_41, oi_59, oi_6, Pj_declaration, Pu_emit, Pj_expression, Pj_exps, Pj_isSign, Pj_isTold, Pj_open, Pj_take, Pu_thing, Pj_want]; try dsimp only
        try simp only [hR2.e2, hR2.e14, hR2.e15, hR2.e17, hR2.e18, hR2.e36, hR2.e42, hR2.e49, hR2.e62, hR2.a3, hR2.a6, hR2.a51, hR2.a19, hR2.a63, hR2.a64, hR2.hp, hR.e18]
        refine hB _ _ _ _ _ _ _ _ (fun m24 hm24 => ?_)
        dsimp only [jgo, jwp, jst, jct, rfd, BforOf, Nat.beq, lv_args, rlk, rs1, rs2, rdl, rky, rcd, rno, rsw, Value.category, List.filter, List.take, List.drop, List.reverse, List.reverseAux, List.cons_append, List.nil_append, Option.toList, Int.toNat, Int.reduceToNat, if_pos, if_neg, reduceIte, ↓reduceIte, Nat.reduceAdd, Nat.reduceEqDiff, Nat.reduceBEq, beq_self_eq_true, Bool.not_true, Bool.not_false, Bool.and_true, Bool.and_false, Bool.true_and, Bool.false_and, gI_sI, gI_sL, gI_sA, gI_sM, gL_sI, gL_sL, gL_sA, gL_sM, aI_sI, aI_sL, aI_sA, aI_sM, aL_sI, aL_sL, aL_sA, aL_sM, BforOf_0, BforOf_29, BforOf_38, BforOf_40, BforOf_47, BforOf_55, BforOf_57, BforOf_66, BforOf_73, BforOf_75, BforOf_84, BforOf_86, BforOf_109, BforOf_113, BforOf_114, BforOf_121, BforOf_128, BforOf_130, BforOf_151, BforOf_155, BforOf_156, BforOf_174, BforOf_176, BforOf_199, BforOf_206, BforOf_208, BforOf_217, BforOf_219, oi_0, oi_1, oi_20, oi_32, oi_33, oi_34, oi_35, oi_40, oi_41, oi_59, oi_6, Pj_declaration, Pu_emit, Pj_expression, Pj_exps, Pj_isSign, Pj_isTold, Pj_open, Pj_take, Pu_thing, Pj_want]; try dsimp only
        try simp only [hR2.e2, hR2.e14, hR2.e15, hR2.e17, hR2.e18, hR2.e36, hR2.e42, hR2.e49, hR2.e62, hR2.a3, hR2.a6, hR2.a51, hR2.a19, hR2.a63, hR2.a64, hR2.hp, hR.e18]
        intro p25 q25
        try simp only [hR2.e2, hR2.e14, hR2.e15, hR2.e17, hR2.e18, hR2.e36, hR2.e42, hR2.e49, hR2.e62, hR2.a3, hR2.a6, hR2.a51, hR2.a19, hR2.a63, hR2.a64, hR2.hp, hR.e18]
        intro p26 q26
        try simp only [hR2.e2, hR2.e14, hR2.e15, hR2.e17, hR2.e18, hR2.e36, hR2.e42, hR2.e49, hR2.e62, hR2.a3, hR2.a6, hR2.a51, hR2.a19, hR2.a63, hR2.a64, hR2.hp, hR.e18]
        refine ⟨⟨(Rj.w (md := 1) (by (repeat (first | exact hR2 | refine Rj.i ?_ rfl | refine Rj.a ?_ rfl | refine Rj.m ?_ | refine Rj.s ?_ (by decide) | refine Rj.o1 ?_ (by first | lia | (dsimp only [Nat.beq, gI_sI, gI_sL, gI_sA, gI_sM, gL_sI, gL_sL, gL_sA, gL_sM, aI_sI, aI_sL, aI_sA, aI_sM, aL_sI, aL_sL, aL_sA, aL_sM]; lia)) | refine Rj.o2 ?_ | refine Rj.f1 ?_ (by first | lia | (dsimp only [Nat.beq, gI_sI, gI_sL, gI_sA, gI_sM, gL_sI, gL_sL, gL_sA, gL_sM, aI_sI, aI_sL, aI_sA, aI_sM, aL_sI, aL_sL, aL_sA, aL_sM]; lia)) | refine Rj.f2 ?_ | refine Rj.fs ?_)))), (by first | exact True.intro | rfl)⟩, fun w27 τ27 w27' τ27' hq27 => ?_⟩
        obtain ⟨b27, rfl, rfl, hb27⟩ := hq27
        rcases hb27 with rfl | ⟨rfl, hr27, hk27, hx27⟩
        · dsimp only [Option.toList, List.cons_append, List.nil_append, Nat.beq, gI_sI, gI_sL, gI_sA, gI_sM, gL_sI, gL_sL, gL_sA, gL_sM, aI_sI, aI_sL, aI_sA, aI_sM, aL_sI, aL_sL, aL_sA, aL_sM]
          try simp only [hR2.e2, hR2.e14, hR2.e15, hR2.e17, hR2.e18, hR2.e36, hR2.e42, hR2.e49, hR2.e62, hR2.a3, hR2.a6, hR2.a51, hR2.a19, hR2.a63, hR2.a64, hR2.hp, hR.e18]
          refine ⟨fun h28 => absurd h28 (by decide), fun h28 => ⟨(by exact h28), ?_⟩⟩
          clear h28
          refine hB _ _ _ _ _ _ _ _ (fun m29 hm29 => ?_)
          dsimp only [jgo, jwp, jst, jct, rfd, BforOf, Nat.beq, lv_args, rlk, rs1, rs2, rdl, rky, rcd, rno, rsw, Value.category, List.filter, List.take, List.drop, List.reverse, List.reverseAux, List.cons_append, List.nil_append, Option.toList, Int.toNat, Int.reduceToNat, if_pos, if_neg, reduceIte, ↓reduceIte, Nat.reduceAdd, Nat.reduceEqDiff, Nat.reduceBEq, beq_self_eq_true, Bool.not_true, Bool.not_false, Bool.and_true, Bool.and_false, Bool.true_and, Bool.false_and, gI_sI, gI_sL, gI_sA, gI_sM, gL_sI, gL_sL, gL_sA, gL_sM, aI_sI, aI_sL, aI_sA, aI_sM, aL_sI, aL_sL, aL_sA, aL_sM, BforOf_0, BforOf_29, BforOf_38, BforOf_40, BforOf_47, BforOf_55, BforOf_57, BforOf_66, BforOf_73, BforOf_75, BforOf_84, BforOf_86, BforOf_109, BforOf_113, BforOf_114, BforOf_121, BforOf_128, BforOf_130, BforOf_151, BforOf_155, BforOf_156, BforOf_174, BforOf_176, BforOf_199, BforOf_206, BforOf_208, BforOf_217, BforOf_219, oi_0, oi_1, oi_20, oi_32, oi_33, oi_34, oi_35, oi_40, oi_41, oi_59, oi_6, Pj_declaration, Pu_emit, Pj_expression, Pj_exps, Pj_isSign, Pj_isTold, Pj_open, Pj_take, Pu_thing, Pj_want]; try dsimp only
          try simp only [hR2.e2, hR2.e14, hR2.e15, hR2.e17, hR2.e18, hR2.e36, hR2.e42, hR2.e49, hR2.e62, hR2.a3, hR2.a6, hR2.a51, hR2.a19, hR2.a63, hR2.a64, hR2.hp, hR.e18]
          unfold Qj_forOf
          try dsimp only
          exact ⟨_, rfl, rfl, Or.inl rfl⟩
        · dsimp only [Option.toList, List.cons_append, List.nil_append, Nat.beq, gI_sI, gI_sL, gI_sA, gI_sM, gL_sI, gL_sL, gL_sA, gL_sM, aI_sI, aI_sL, aI_sA, aI_sM, aL_sI, aL_sL, aL_sA, aL_sM]
          have hR27 : Rj 1 τ27 τ27' := hr27 _ (by (repeat (first | exact hR2 | refine Rj.i ?_ rfl | refine Rj.a ?_ rfl | refine Rj.m ?_ | refine Rj.s ?_ (by decide) | refine Rj.o1 ?_ (by first | lia | (dsimp only [Nat.beq, gI_sI, gI_sL, gI_sA, gI_sM, gL_sI, gL_sL, gL_sA, gL_sM, aI_sI, aI_sL, aI_sA, aI_sM, aL_sI, aL_sL, aL_sA, aL_sM]; lia)) | refine Rj.o2 ?_ | refine Rj.f1 ?_ (by first | lia | (dsimp only [Nat.beq, gI_sI, gI_sL, gI_sA, gI_sM, gL_sI, gL_sL, gL_sA, gL_sM, aI_sI, aI_sL, aI_sA, aI_sM, aL_sI, aL_sL, aL_sA, aL_sM]; lia)) | refine Rj.f2 ?_ | refine Rj.fs ?_)))
          have ht27 := hk27.2 3 rfl
          have hc27 := hk27.1 2 rfl
          try dsimp only [Nat.beq, gI_sI, gI_sL, gI_sA, gI_sM, gL_sI, gL_sL, gL_sA, gL_sM, aI_sI, aI_sL, aI_sA, aI_sM, aL_sI, aL_sL, aL_sA, aL_sM] at hx27
          try dsimp only [Nat.beq, gI_sI, gI_sL, gI_sA, gI_sM, gL_sI, gL_sL, gL_sA, gL_sM, aI_sI, aI_sL, aI_sA, aI_sM, aL_sI, aL_sL, aL_sA, aL_sM] at ht27
          try dsimp only [Nat.beq, gI_sI, gI_sL, gI_sA, gI_sM, gL_sI, gL_sL, gL_sA, gL_sM, aI_sI, aI_sL, aI_sA, aI_sM, aL_sI, aL_sL, aL_sA, aL_sM] at hc27
          have hh27 := hk27.1 62 rfl
          have hg27 := hk27.1 49 rfl
          try dsimp only [Nat.beq, gI_sI, gI_sL, gI_sA, gI_sM, gL_sI, gL_sL, gL_sA, gL_sM, aI_sI, aI_sL, aI_sA, aI_sM, aL_sI, aL_sL, aL_sA, aL_sM] at hh27
          try dsimp only [Nat.beq, gI_sI, gI_sL, gI_sA, gI_sM, gL_sI, gL_sL, gL_sA, gL_sM, aI_sI, aI_sL, aI_sA, aI_sM, aL_sI, aL_sL, aL_sA, aL_sM] at hg27
          have hz27 := congrFun ht27 (gI τ27 14).toNatClampNeg
          try simp only [hR27.e2, hR27.e14, hR27.e15, hR27.e17, hR27.e18, hR27.e36, hR27.e42, hR27.e49, hR27.e62, hR27.a3, hR27.a6, hR27.a51, hR27.a19, hR27.a63, hR27.a64, hR27.hp, hR.e18]
          refine ⟨fun h30 => ⟨(by exact h30), ?_⟩, fun h30 => absurd h30 (by decide)⟩
          clear h30
          refine hB _ _ _ _ _ _ _ _ (fun m31 hm31 => ?_)
          dsimp only [jgo, jwp, jst, jct, rfd, BforOf, Nat.beq, lv_args, rlk, rs1, rs2, rdl, rky, rcd, rno, rsw, Value.category, List.filter, List.take, List.drop, List.reverse, List.reverseAux, List.cons_append, List.nil_append, Option.toList, Int.toNat, Int.reduceToNat, if_pos, if_neg, reduceIte, ↓reduceIte, Nat.reduceAdd, Nat.reduceEqDiff, Nat.reduceBEq, beq_self_eq_true, Bool.not_true, Bool.not_false, Bool.and_true, Bool.and_false, Bool.true_and, Bool.false_and, gI_sI, gI_sL, gI_sA, gI_sM, gL_sI, gL_sL, gL_sA, gL_sM, aI_sI, aI_sL, aI_sA, aI_sM, aL_sI, aL_sL, aL_sA, aL_sM, BforOf_0, BforOf_29, BforOf_38, BforOf_40, BforOf_47, BforOf_55, BforOf_57, BforOf_66, BforOf_73, BforOf_75, BforOf_84, BforOf_86, BforOf_109, BforOf_113, BforOf_114, BforOf_121, BforOf_128, BforOf_130, BforOf_151, BforOf_155, BforOf_156, BforOf_174, BforOf_176, BforOf_199, BforOf_206, BforOf_208, BforOf_217, BforOf_219, oi_0, oi_1, oi_20, oi_32, oi_33, oi_34, oi_35, oi_40, oi_41, oi_59, oi_6, Pj_declaration, Pu_emit, Pj_expression, Pj_exps, Pj_isSign, Pj_isTold, Pj_open, Pj_take, Pu_thing, Pj_want]; try dsimp only
          try simp only [hR27.e2, hR27.e14, hR27.e15, hR27.e17, hR27.e18, hR27.e36, hR27.e42, hR27.e49, hR27.e62, hR27.a3, hR27.a6, hR27.a51, hR27.a19, hR27.a63, hR27.a64, hR27.hp, hR.e18]
          refine ⟨⟨trivial, trivial⟩, fun w32 τ32 w32' τ32' hq32 => ?_⟩
          obtain ⟨⟨rfl, hE32⟩, rfl, hF32⟩ := hq32
          have hR32 : Rj 1 τ32 τ32' := Rj.em (by (repeat (first | exact hR27 | refine Rj.i ?_ rfl | refine Rj.a ?_ rfl | refine Rj.m ?_ | refine Rj.s ?_ (by decide) | refine Rj.o1 ?_ (by first | lia | (dsimp only [Nat.beq, gI_sI, gI_sL, gI_sA, gI_sM, gL_sI, gL_sL, gL_sA, gL_sM, aI_sI, aI_sL, aI_sA, aI_sM, aL_sI, aL_sL, aL_sA, aL_sM]; lia)) | refine Rj.o2 ?_ | refine Rj.f1 ?_ (by first | lia | (dsimp only [Nat.beq, gI_sI, gI_sL, gI_sA, gI_sM, gL_sI, gL_sL, gL_sA, gL_sM, aI_sI, aI_sL, aI_sA, aI_sM, aL_sI, aL_sL, aL_sA, aL_sM]; lia)) | refine Rj.f2 ?_ | refine Rj.fs ?_))) hE32 hF32 (by first | exact fun _ => rfl | exact fun q => absurd q (by decide))
          have hp32 := hE32.1 14 (by decide)
          have ho32 := hE32.1 29 (by decide)
          have hh32 := hE32.1 62 (by decide)
          have hg32 := hE32.1 49 (by decide)
          have hw32 := hE32.1 34 (by decide)
          have hv32 := hF32.1 34 (by decide)
          have ht32 := hE32.2.2.2.2.1 3 (by decide)
          try dsimp only [Nat.beq, gI_sI, gI_sL, gI_sA, gI_sM, gL_sI, gL_sL, gL_sA, gL_sM, aI_sI, aI_sL, aI_sA, aI_sM, aL_sI, aL_sL, aL_sA, aL_sM] at hp32
          try dsimp only [Nat.beq, gI_sI, gI_sL, gI_sA, gI_sM, gL_sI, gL_sL, gL_sA, gL_sM, aI_sI, aI_sL, aI_sA, aI_sM, aL_sI, aL_sL, aL_sA, aL_sM] at ho32
          try dsimp only [Nat.beq, gI_sI, gI_sL, gI_sA, gI_sM, gL_sI, gL_sL, gL_sA, gL_sM, aI_sI, aI_sL, aI_sA, aI_sM, aL_sI, aL_sL, aL_sA, aL_sM] at hh32
          try dsimp only [Nat.beq, gI_sI, gI_sL, gI_sA, gI_sM, gL_sI, gL_sL, gL_sA, gL_sM, aI_sI, aI_sL, aI_sA, aI_sM, aL_sI, aL_sL, aL_sA, aL_sM] at hg32
          try dsimp only [Nat.beq, gI_sI, gI_sL, gI_sA, gI_sM, gL_sI, gL_sL, gL_sA, gL_sM, aI_sI, aI_sL, aI_sA, aI_sM, aL_sI, aL_sL, aL_sA, aL_sM] at hw32
          try dsimp only [Nat.beq, gI_sI, gI_sL, gI_sA, gI_sM, gL_sI, gL_sL, gL_sA, gL_sM, aI_sI, aI_sL, aI_sA, aI_sM, aL_sI, aL_sL, aL_sA, aL_sM] at hv32
          try dsimp only [Nat.beq, gI_sI, gI_sL, gI_sA, gI_sM, gL_sI, gL_sL, gL_sA, gL_sM, aI_sI, aI_sL, aI_sA, aI_sM, aL_sI, aL_sL, aL_sA, aL_sM] at ht32
          have hz32 := congrFun ht32 (gI τ32 14).toNatClampNeg
          dsimp only [Option.toList, List.cons_append, List.nil_append, Nat.beq, gI_sI, gI_sL, gI_sA, gI_sM, gL_sI, gL_sL, gL_sA, gL_sM, aI_sI, aI_sL, aI_sA, aI_sM, aL_sI, aL_sL, aL_sA, aL_sM]
          try simp only [hR32.e2, hR32.e14, hR32.e15, hR32.e17, hR32.e18, hR32.e36, hR32.e42, hR32.e49, hR32.e62, hR32.a3, hR32.a6, hR32.a51, hR32.a19, hR32.a63, hR32.a64, hR32.hp, hR.e18, hR27.e18]
          intro p33 q33
          try simp only [hR32.e2, hR32.e14, hR32.e15, hR32.e17, hR32.e18, hR32.e36, hR32.e42, hR32.e49, hR32.e62, hR32.a3, hR32.a6, hR32.a51, hR32.a19, hR32.a63, hR32.a64, hR32.hp, hR.e18, hR27.e18]
          refine ⟨⟨(Rj.w (md := 1) (by (repeat (first | exact hR32 | refine Rj.i ?_ rfl | refine Rj.a ?_ rfl | refine Rj.m ?_ | refine Rj.s ?_ (by decide) | refine Rj.o1 ?_ (by first | lia | (dsimp only [Nat.beq, gI_sI, gI_sL, gI_sA, gI_sM, gL_sI, gL_sL, gL_sA, gL_sM, aI_sI, aI_sL, aI_sA, aI_sM, aL_sI, aL_sL, aL_sA, aL_sM]; lia)) | refine Rj.o2 ?_ | refine Rj.f1 ?_ (by first | lia | (dsimp only [Nat.beq, gI_sI, gI_sL, gI_sA, gI_sM, gL_sI, gL_sL, gL_sA, gL_sM, aI_sI, aI_sL, aI_sA, aI_sM, aL_sI, aL_sL, aL_sA, aL_sM]; lia)) | refine Rj.f2 ?_ | refine Rj.fs ?_)))), (by first | exact True.intro | rfl)⟩, fun w34 τ34 w34' τ34' hq34 => ?_⟩
          obtain ⟨b34, rfl, rfl, rfl, rfl, hb34⟩ := hq34
          rcases hb34 with rfl | ⟨rfl, hf34⟩
          · dsimp only [Option.toList, List.cons_append, List.nil_append, Nat.beq, gI_sI, gI_sL, gI_sA, gI_sM, gL_sI, gL_sL, gL_sA, gL_sM, aI_sI, aI_sL, aI_sA, aI_sM, aL_sI, aL_sL, aL_sA, aL_sM]
            try simp only [hR32.e2, hR32.e14, hR32.e15, hR32.e17, hR32.e18, hR32.e36, hR32.e42, hR32.e49, hR32.e62, hR32.a3, hR32.a6, hR32.a51, hR32.a19, hR32.a63, hR32.a64, hR32.hp, hR.e18, hR27.e18]
            refine ⟨fun h35 => absurd h35 (by decide), fun h35 => ⟨(by exact h35), ?_⟩⟩
            clear h35
            refine hB _ _ _ _ _ _ _ _ (fun m36 hm36 => ?_)
            dsimp only [jgo, jwp, jst, jct, rfd, BforOf, Nat.beq, lv_args, rlk, rs1, rs2, rdl, rky, rcd, rno, rsw, Value.category, List.filter, List.take, List.drop, List.reverse, List.reverseAux, List.cons_append, List.nil_append, Option.toList, Int.toNat, Int.reduceToNat, if_pos, if_neg, reduceIte, ↓reduceIte, Nat.reduceAdd, Nat.reduceEqDiff, Nat.reduceBEq, beq_self_eq_true, Bool.not_true, Bool.not_false, Bool.and_true, Bool.and_false, Bool.true_and, Bool.false_and, gI_sI, gI_sL, gI_sA, gI_sM, gL_sI, gL_sL, gL_sA, gL_sM, aI_sI, aI_sL, aI_sA, aI_sM, aL_sI, aL_sL, aL_sA, aL_sM, BforOf_0, BforOf_29, BforOf_38, BforOf_40, BforOf_47, BforOf_55, BforOf_57, BforOf_66, BforOf_73, BforOf_75, BforOf_84, BforOf_86, BforOf_109, BforOf_113, BforOf_114, BforOf_121, BforOf_128, BforOf_130, BforOf_151, BforOf_155, BforOf_156, BforOf_174, BforOf_176, BforOf_199, BforOf_206, BforOf_208, BforOf_217, BforOf_219, oi_0, oi_1, oi_20, oi_32, oi_33, oi_34, oi_35, oi_40, oi_41, oi_59, oi_6, Pj_declaration, Pu_emit, Pj_expression, Pj_exps, Pj_isSign, Pj_isTold, Pj_open, Pj_take, Pu_thing, Pj_want]; try dsimp only
            try simp only [hR32.e2, hR32.e14, hR32.e15, hR32.e17, hR32.e18, hR32.e36, hR32.e42, hR32.e49, hR32.e62, hR32.a3, hR32.a6, hR32.a51, hR32.a19, hR32.a63, hR32.a64, hR32.hp, hR.e18, hR27.e18]
            refine ⟨(by (repeat (first | exact hR32 | refine Rj.i ?_ rfl | refine Rj.a ?_ rfl | refine Rj.m ?_ | refine Rj.s ?_ (by decide) | refine Rj.o1 ?_ (by first | lia | (dsimp only [Nat.beq, gI_sI, gI_sL, gI_sA, gI_sM, gL_sI, gL_sL, gL_sA, gL_sM, aI_sI, aI_sL, aI_sA, aI_sM, aL_sI, aL_sL, aL_sA, aL_sM]; lia)) | refine Rj.o2 ?_ | refine Rj.f1 ?_ (by first | lia | (dsimp only [Nat.beq, gI_sI, gI_sL, gI_sA, gI_sM, gL_sI, gL_sL, gL_sA, gL_sM, aI_sI, aI_sL, aI_sA, aI_sM, aL_sI, aL_sL, aL_sA, aL_sM]; lia)) | refine Rj.f2 ?_ | refine Rj.fs ?_))), fun w37 τ37 w37' τ37' hq37 => ?_⟩
            obtain ⟨b37, rfl, rfl, hb37⟩ := hq37
            rcases hb37 with rfl | ⟨rfl, hR37, hk37⟩
            · dsimp only [Option.toList, List.cons_append, List.nil_append, Nat.beq, gI_sI, gI_sL, gI_sA, gI_sM, gL_sI, gL_sL, gL_sA, gL_sM, aI_sI, aI_sL, aI_sA, aI_sM, aL_sI, aL_sL, aL_sA, aL_sM]
              try simp only [hR32.e2, hR32.e14, hR32.e15, hR32.e17, hR32.e18, hR32.e36, hR32.e42, hR32.e49, hR32.e62, hR32.a3, hR32.a6, hR32.a51, hR32.a19, hR32.a63, hR32.a64, hR32.hp, hR.e18, hR27.e18]
              refine ⟨fun h38 => absurd h38 (by decide), fun h38 => ⟨(by exact h38), ?_⟩⟩
              clear h38
              refine hB _ _ _ _ _ _ _ _ (fun m39 hm39 => ?_)
              dsimp only [jgo, jwp, jst, jct, rfd, BforOf, Nat.beq, lv_args, rlk, rs1, rs2, rdl, rky, rcd, rno, rsw, Value.category, List.filter, List.take, List.drop, List.reverse, List.reverseAux, List.cons_append, List.nil_append, Option.toList, Int.toNat, Int.reduceToNat, if_pos, if_neg, reduceIte, ↓reduceIte, Nat.reduceAdd, Nat.reduceEqDiff, Nat.reduceBEq, beq_self_eq_true, Bool.not_true, Bool.not_false, Bool.and_true, Bool.and_false, Bool.true_and, Bool.false_and, gI_sI, gI_sL, gI_sA, gI_sM, gL_sI, gL_sL, gL_sA, gL_sM, aI_sI, aI_sL, aI_sA, aI_sM, aL_sI, aL_sL, aL_sA, aL_sM, BforOf_0, BforOf_29, BforOf_38, BforOf_40, BforOf_47, BforOf_55, BforOf_57, BforOf_66, BforOf_73, BforOf_75, BforOf_84, BforOf_86, BforOf_109, BforOf_113, BforOf_114, BforOf_121, BforOf_128, BforOf_130, BforOf_151, BforOf_155, BforOf_156, BforOf_174, BforOf_176, BforOf_199, BforOf_206, BforOf_208, BforOf_217, BforOf_219, oi_0, oi_1, oi_20, oi_32, oi_33, oi_34, oi_35, oi_40, oi_41, oi_59, oi_6, Pj_declaration, Pu_emit, Pj_expression, Pj_exps, Pj_isSign, Pj_isTold, Pj_open, Pj_take, Pu_thing, Pj_want]; try dsimp only
              try simp only [hR32.e2, hR32.e14, hR32.e15, hR32.e17, hR32.e18, hR32.e36, hR32.e42, hR32.e49, hR32.e62, hR32.a3, hR32.a6, hR32.a51, hR32.a19, hR32.a63, hR32.a64, hR32.hp, hR.e18, hR27.e18]
              unfold Qj_forOf
              try dsimp only
              exact ⟨_, rfl, rfl, Or.inl rfl⟩
            · dsimp only [Option.toList, List.cons_append, List.nil_append, Nat.beq, gI_sI, gI_sL, gI_sA, gI_sM, gL_sI, gL_sL, gL_sA, gL_sM, aI_sI, aI_sL, aI_sA, aI_sM, aL_sI, aL_sL, aL_sA, aL_sM]
              have hh37 := hk37.1 62 rfl
              have hg37 := hk37.1 49 rfl
              try dsimp only [Nat.beq, gI_sI, gI_sL, gI_sA, gI_sM, gL_sI, gL_sL, gL_sA, gL_sM, aI_sI, aI_sL, aI_sA, aI_sM, aL_sI, aL_sL, aL_sA, aL_sM] at hh37
              try dsimp only [Nat.beq, gI_sI, gI_sL, gI_sA, gI_sM, gL_sI, gL_sL, gL_sA, gL_sM, aI_sI, aI_sL, aI_sA, aI_sM, aL_sI, aL_sL, aL_sA, aL_sM] at hg37
              try simp only [hR37.e2, hR37.e14, hR37.e15, hR37.e17, hR37.e18, hR37.e36, hR37.e42, hR37.e49, hR37.e62, hR37.a3, hR37.a6, hR37.a51, hR37.a19, hR37.a63, hR37.a64, hR37.hp, hR.e18, hR27.e18]
              refine ⟨fun h40 => ⟨(by exact h40), ?_⟩, fun h40 => absurd h40 (by decide)⟩
              clear h40
              exact hW _ 208 [(0, .ref 1000), (1, .int t), (2, .int s), (3, .int k)] [(0, .ref 1000), (1, .int t), (2, .int s), (3, .int k)] _ _ _ _ _ _ (by simp [rdl, rky]) (by simp [rdl, rky]) (t208 _ _ _ t s k (by (repeat (first | exact hR37 | refine Rj.i ?_ rfl | refine Rj.a ?_ rfl | refine Rj.m ?_ | refine Rj.s ?_ (by decide) | refine Rj.o1 ?_ (by first | lia | (dsimp only [Nat.beq, gI_sI, gI_sL, gI_sA, gI_sM, gL_sI, gL_sL, gL_sA, gL_sM, aI_sI, aI_sL, aI_sA, aI_sM, aL_sI, aL_sL, aL_sA, aL_sM]; lia)) | refine Rj.o2 ?_ | refine Rj.f1 ?_ (by first | lia | (dsimp only [Nat.beq, gI_sI, gI_sL, gI_sA, gI_sM, gL_sI, gL_sL, gL_sA, gL_sM, aI_sI, aI_sL, aI_sA, aI_sM, aL_sI, aL_sL, aL_sA, aL_sM]; lia)) | refine Rj.f2 ?_ | refine Rj.fs ?_))) (by first | lia | (dsimp only [Nat.beq, gI_sI, gI_sL, gI_sA, gI_sM, gL_sI, gL_sL, gL_sA, gL_sM, aI_sI, aI_sL, aI_sA, aI_sM, aL_sI, aL_sL, aL_sA, aL_sM]; lia)))
          · dsimp only [Option.toList, List.cons_append, List.nil_append, Nat.beq, gI_sI, gI_sL, gI_sA, gI_sM, gL_sI, gL_sL, gL_sA, gL_sM, aI_sI, aI_sL, aI_sA, aI_sM, aL_sI, aL_sL, aL_sA, aL_sM]
            try dsimp only [Nat.beq, gI_sI, gI_sL, gI_sA, gI_sM, gL_sI, gL_sL, gL_sA, gL_sM, aI_sI, aI_sL, aI_sA, aI_sM, aL_sI, aL_sL, aL_sA, aL_sM] at hf34
            try simp only [hR32.e2, hR32.e14, hR32.e15, hR32.e17, hR32.e18, hR32.e36, hR32.e42, hR32.e49, hR32.e62, hR32.a3, hR32.a6, hR32.a51, hR32.a19, hR32.a63, hR32.a64, hR32.hp, hR.e18, hR27.e18]
            refine ⟨fun h41 => ⟨(by exact h41), ?_⟩, fun h41 => absurd h41 (by decide)⟩
            clear h41
            exact hW _ 208 [(0, .ref 1000), (1, .int t), (2, .int s), (3, .int k)] [(0, .ref 1000), (1, .int t), (2, .int s), (3, .int k)] _ _ _ _ _ _ (by simp [rdl, rky]) (by simp [rdl, rky]) (t208 _ _ _ t s k (by (repeat (first | exact hR32 | refine Rj.i ?_ rfl | refine Rj.a ?_ rfl | refine Rj.m ?_ | refine Rj.s ?_ (by decide) | refine Rj.o1 ?_ (by first | lia | (dsimp only [Nat.beq, gI_sI, gI_sL, gI_sA, gI_sM, gL_sI, gL_sL, gL_sA, gL_sM, aI_sI, aI_sL, aI_sA, aI_sM, aL_sI, aL_sL, aL_sA, aL_sM]; lia)) | refine Rj.o2 ?_ | refine Rj.f1 ?_ (by first | lia | (dsimp only [Nat.beq, gI_sI, gI_sL, gI_sA, gI_sM, gL_sI, gL_sL, gL_sA, gL_sM, aI_sI, aI_sL, aI_sA, aI_sM, aL_sI, aL_sL, aL_sA, aL_sM]; lia)) | refine Rj.f2 ?_ | refine Rj.fs ?_))) (by first | lia | (dsimp only [Nat.beq, gI_sI, gI_sL, gI_sA, gI_sM, gL_sI, gL_sL, gL_sA, gL_sM, aI_sI, aI_sL, aI_sA, aI_sM, aL_sI, aL_sL, aL_sA, aL_sM]; lia)))
    have t75 : ∀ (n : Nat) (X Y : RS) (t s k : Int32), Rj 1 X Y → k.toNatClampNeg < (gI X 49).toNatClampNeg → K n 75 [(0, .ref 1000), (1, .int t), (2, .int s), (3, .int k)] [(0, .ref 1000), (1, .int t), (2, .int s), (3, .int k)] [] [] X Y := by
      intro n X Y t s k hR hlk
      refine hB _ _ _ _ _ _ _ _ (fun m1 hm1 => ?_)
      dsimp only [jgo, jwp, jst, jct, rfd, BforOf, Nat.beq, lv_args, rlk, rs1, rs2, rdl, rky, rcd, rno, rsw, Value.category, List.filter, List.take, List.drop, List.reverse, List.reverseAux, List.cons_append, List.nil_append, Option.toList, Int.toNat, Int.reduceToNat, if_pos, if_neg, reduceIte, ↓reduceIte, Nat.reduceAdd, Nat.reduceEqDiff, Nat.reduceBEq, beq_self_eq_true, Bool.not_true, Bool.not_false, Bool.and_true, Bool.and_false, Bool.true_and, Bool.false_and, gI_sI, gI_sL, gI_sA, gI_sM, gL_sI, gL_sL, gL_sA, gL_sM, aI_sI, aI_sL, aI_sA, aI_sM, aL_sI, aL_sL, aL_sA, aL_sM, BforOf_0, BforOf_29, BforOf_38, BforOf_40, BforOf_47, BforOf_55, BforOf_57, BforOf_66, BforOf_73, BforOf_75, BforOf_84, BforOf_86, BforOf_109, BforOf_113, BforOf_114, BforOf_121, BforOf_128, BforOf_130, BforOf_151, BforOf_155, BforOf_156, BforOf_174, BforOf_176, BforOf_199, BforOf_206, BforOf_208, BforOf_217, BforOf_219, oi_0, oi_1, oi_20, oi_32, oi_33, oi_34, oi_35, oi_40, oi_41, oi_59, oi_6, Pj_declaration, Pu_emit, Pj_expression, Pj_exps, Pj_isSign, Pj_isTold, Pj_open, Pj_take, Pu_thing, Pj_want]; try dsimp only
      try simp only [hR.e2, hR.e14, hR.e15, hR.e17, hR.e18, hR.e36, hR.e42, hR.e49, hR.e62, hR.a3, hR.a6, hR.a51, hR.a19, hR.a63, hR.a64, hR.hp]
      refine ⟨⟨(Rj.w (md := 1) (by (repeat (first | exact hR | refine Rj.i ?_ rfl | refine Rj.a ?_ rfl | refine Rj.m ?_ | refine Rj.s ?_ (by decide) | refine Rj.o1 ?_ (by first | lia | (dsimp only [Nat.beq, gI_sI, gI_sL, gI_sA, gI_sM, gL_sI, gL_sL, gL_sA, gL_sM, aI_sI, aI_sL, aI_sA, aI_sM, aL_sI, aL_sL, aL_sA, aL_sM]; lia)) | refine Rj.o2 ?_ | refine Rj.f1 ?_ (by first | lia | (dsimp only [Nat.beq, gI_sI, gI_sL, gI_sA, gI_sM, gL_sI, gL_sL, gL_sA, gL_sM, aI_sI, aI_sL, aI_sA, aI_sM, aL_sI, aL_sL, aL_sA, aL_sM]; lia)) | refine Rj.f2 ?_ | refine Rj.fs ?_)))), (by first | exact True.intro | rfl)⟩, fun w2 τ2 w2' τ2' hq2 => ?_⟩
      obtain ⟨b2, rfl, rfl, hb2⟩ := hq2
      rcases hb2 with rfl | ⟨rfl, hr2, hk2, hx2⟩
      · dsimp only [Option.toList, List.cons_append, List.nil_append, Nat.beq, gI_sI, gI_sL, gI_sA, gI_sM, gL_sI, gL_sL, gL_sA, gL_sM, aI_sI, aI_sL, aI_sA, aI_sM, aL_sI, aL_sL, aL_sA, aL_sM]
        try simp only [hR.e2, hR.e14, hR.e15, hR.e17, hR.e18, hR.e36, hR.e42, hR.e49, hR.e62, hR.a3, hR.a6, hR.a51, hR.a19, hR.a63, hR.a64, hR.hp]
        refine ⟨fun h3 => absurd h3 (by decide), fun h3 => ⟨(by exact h3), ?_⟩⟩
        clear h3
        refine hB _ _ _ _ _ _ _ _ (fun m4 hm4 => ?_)
        dsimp only [jgo, jwp, jst, jct, rfd, BforOf, Nat.beq, lv_args, rlk, rs1, rs2, rdl, rky, rcd, rno, rsw, Value.category, List.filter, List.take, List.drop, List.reverse, List.reverseAux, List.cons_append, List.nil_append, Option.toList, Int.toNat, Int.reduceToNat, if_pos, if_neg, reduceIte, ↓reduceIte, Nat.reduceAdd, Nat.reduceEqDiff, Nat.reduceBEq, beq_self_eq_true, Bool.not_true, Bool.not_false, Bool.and_true, Bool.and_false, Bool.true_and, Bool.false_and, gI_sI, gI_sL, gI_sA, gI_sM, gL_sI, gL_sL, gL_sA, gL_sM, aI_sI, aI_sL, aI_sA, aI_sM, aL_sI, aL_sL, aL_sA, aL_sM, BforOf_0, BforOf_29, BforOf_38, BforOf_40, BforOf_47, BforOf_55, BforOf_57, BforOf_66, BforOf_73, BforOf_75, BforOf_84, BforOf_86, BforOf_109, BforOf_113, BforOf_114, BforOf_121, BforOf_128, BforOf_130, BforOf_151, BforOf_155, BforOf_156, BforOf_174, BforOf_176, BforOf_199, BforOf_206, BforOf_208, BforOf_217, BforOf_219, oi_0, oi_1, oi_20, oi_32, oi_33, oi_34, oi_35, oi_40, oi_41, oi_59, oi_6, Pj_declaration, Pu_emit, Pj_expression, Pj_exps, Pj_isSign, Pj_isTold, Pj_open, Pj_take, Pu_thing, Pj_want]; try dsimp only
        try simp only [hR.e2, hR.e14, hR.e15, hR.e17, hR.e18, hR.e36, hR.e42, hR.e49, hR.e62, hR.a3, hR.a6, hR.a51, hR.a19, hR.a63, hR.a64, hR.hp]
        unfold Qj_forOf
        try dsimp only
        exact ⟨_, rfl, rfl, Or.inl rfl⟩
      · dsimp only [Option.toList, List.cons_append, List.nil_append, Nat.beq, gI_sI, gI_sL, gI_sA, gI_sM, gL_sI, gL_sL, gL_sA, gL_sM, aI_sI, aI_sL, aI_sA, aI_sM, aL_sI, aL_sL, aL_sA, aL_sM]
        have hR2 : Rj 1 τ2 τ2' := hr2 _ (by (repeat (first | exact hR | refine Rj.i ?_ rfl | refine Rj.a ?_ rfl | refine Rj.m ?_ | refine Rj.s ?_ (by decide) | refine Rj.o1 ?_ (by first | lia | (dsimp only [Nat.beq, gI_sI, gI_sL, gI_sA, gI_sM, gL_sI, gL_sL, gL_sA, gL_sM, aI_sI, aI_sL, aI_sA, aI_sM, aL_sI, aL_sL, aL_sA, aL_sM]; lia)) | refine Rj.o2 ?_ | refine Rj.f1 ?_ (by first | lia | (dsimp only [Nat.beq, gI_sI, gI_sL, gI_sA, gI_sM, gL_sI, gL_sL, gL_sA, gL_sM, aI_sI, aI_sL, aI_sA, aI_sM, aL_sI, aL_sL, aL_sA, aL_sM]; lia)) | refine Rj.f2 ?_ | refine Rj.fs ?_)))
        have ht2 := hk2.2 3 rfl
        have hc2 := hk2.1 2 rfl
        try dsimp only [Nat.beq, gI_sI, gI_sL, gI_sA, gI_sM, gL_sI, gL_sL, gL_sA, gL_sM, aI_sI, aI_sL, aI_sA, aI_sM, aL_sI, aL_sL, aL_sA, aL_sM] at hx2
        try dsimp only [Nat.beq, gI_sI, gI_sL, gI_sA, gI_sM, gL_sI, gL_sL, gL_sA, gL_sM, aI_sI, aI_sL, aI_sA, aI_sM, aL_sI, aL_sL, aL_sA, aL_sM] at ht2
        try dsimp only [Nat.beq, gI_sI, gI_sL, gI_sA, gI_sM, gL_sI, gL_sL, gL_sA, gL_sM, aI_sI, aI_sL, aI_sA, aI_sM, aL_sI, aL_sL, aL_sA, aL_sM] at hc2
        have hh2 := hk2.1 62 rfl
        have hg2 := hk2.1 49 rfl
        try dsimp only [Nat.beq, gI_sI, gI_sL, gI_sA, gI_sM, gL_sI, gL_sL, gL_sA, gL_sM, aI_sI, aI_sL, aI_sA, aI_sM, aL_sI, aL_sL, aL_sA, aL_sM] at hh2
        try dsimp only [Nat.beq, gI_sI, gI_sL, gI_sA, gI_sM, gL_sI, gL_sL, gL_sA, gL_sM, aI_sI, aI_sL, aI_sA, aI_sM, aL_sI, aL_sL, aL_sA, aL_sM] at hg2
        have hz2 := congrFun ht2 (gI τ2 14).toNatClampNeg
        try simp only [hR2.e2, hR2.e14, hR2.e15, hR2.e17, hR2.e18, hR2.e36, hR2.e42, hR2.e49, hR2.e62, hR2.a3, hR2.a6, hR2.a51, hR2.a19, hR2.a63, hR2.a64, hR2.hp]
        refine ⟨fun h5 => ⟨(by exact h5), ?_⟩, fun h5 => absurd h5 (by decide)⟩
        clear h5
        refine hB _ _ _ _ _ _ _ _ (fun m6 hm6 => ?_)
        dsimp only [jgo, jwp, jst, jct, rfd, BforOf, Nat.beq, lv_args, rlk, rs1, rs2, rdl, rky, rcd, rno, rsw, Value.category, List.filter, List.take, List.drop, List.reverse, List.reverseAux, List.cons_append, List.nil_append, Option.toList, Int.toNat, Int.reduceToNat, if_pos, if_neg, reduceIte, ↓reduceIte, Nat.reduceAdd, Nat.reduceEqDiff, Nat.reduceBEq, beq_self_eq_true, Bool.not_true, Bool.not_false, Bool.and_true, Bool.and_false, Bool.true_and, Bool.false_and, gI_sI, gI_sL, gI_sA, gI_sM, gL_sI, gL_sL, gL_sA, gL_sM, aI_sI, aI_sL, aI_sA, aI_sM, aL_sI, aL_sL, aL_sA, aL_sM, BforOf_0, BforOf_29, BforOf_38, BforOf_40, BforOf_47, BforOf_55, BforOf_57, BforOf_66, BforOf_73, BforOf_75, BforOf_84, BforOf_86, BforOf_109, BforOf_113, BforOf_114, BforOf_121, BforOf_128, BforOf_130, BforOf_151, BforOf_155, BforOf_156, BforOf_174, BforOf_176, BforOf_199, BforOf_206, BforOf_208, BforOf_217, BforOf_219, oi_0, oi_1, oi_20, oi_32, oi_33, oi_34, oi_35, oi_40, oi_41, oi_59, oi_6, Pj_declaration, Pu_emit, Pj_expression, Pj_exps, Pj_isSign, Pj_isTold, Pj_open, Pj_take, Pu_thing, Pj_want]; try dsimp only
        try simp only [hR2.e2, hR2.e14, hR2.e15, hR2.e17, hR2.e18, hR2.e36, hR2.e42, hR2.e49, hR2.e62, hR2.a3, hR2.a6, hR2.a51, hR2.a19, hR2.a63, hR2.a64, hR2.hp]
        refine ⟨⟨trivial, trivial⟩, fun w7 τ7 w7' τ7' hq7 => ?_⟩
        obtain ⟨⟨rfl, hE7⟩, rfl, hF7⟩ := hq7
        have hR7 : Rj 1 τ7 τ7' := Rj.em (by (repeat (first | exact hR2 | refine Rj.i ?_ rfl | refine Rj.a ?_ rfl | refine Rj.m ?_ | refine Rj.s ?_ (by decide) | refine Rj.o1 ?_ (by first | lia | (dsimp only [Nat.beq, gI_sI, gI_sL, gI_sA, gI_sM, gL_sI, gL_sL, gL_sA, gL_sM, aI_sI, aI_sL, aI_sA, aI_sM, aL_sI, aL_sL, aL_sA, aL_sM]; lia)) | refine Rj.o2 ?_ | refine Rj.f1 ?_ (by first | lia | (dsimp only [Nat.beq, gI_sI, gI_sL, gI_sA, gI_sM, gL_sI, gL_sL, gL_sA, gL_sM, aI_sI, aI_sL, aI_sA, aI_sM, aL_sI, aL_sL, aL_sA, aL_sM]; lia)) | refine Rj.f2 ?_ | refine Rj.fs ?_))) hE7 hF7 (by first | exact fun _ => rfl | exact fun q => absurd q (by decide))
        have hp7 := hE7.1 14 (by decide)
        have ho7 := hE7.1 29 (by decide)
        have hh7 := hE7.1 62 (by decide)
        have hg7 := hE7.1 49 (by decide)
        have hw7 := hE7.1 34 (by decide)
        have hv7 := hF7.1 34 (by decide)
        have ht7 := hE7.2.2.2.2.1 3 (by decide)
        try dsimp only [Nat.beq, gI_sI, gI_sL, gI_sA, gI_sM, gL_sI, gL_sL, gL_sA, gL_sM, aI_sI, aI_sL, aI_sA, aI_sM, aL_sI, aL_sL, aL_sA, aL_sM] at hp7
        try dsimp only [Nat.beq, gI_sI, gI_sL, gI_sA, gI_sM, gL_sI, gL_sL, gL_sA, gL_sM, aI_sI, aI_sL, aI_sA, aI_sM, aL_sI, aL_sL, aL_sA, aL_sM] at ho7
        try dsimp only [Nat.beq, gI_sI, gI_sL, gI_sA, gI_sM, gL_sI, gL_sL, gL_sA, gL_sM, aI_sI, aI_sL, aI_sA, aI_sM, aL_sI, aL_sL, aL_sA, aL_sM] at hh7
        try dsimp only [Nat.beq, gI_sI, gI_sL, gI_sA, gI_sM, gL_sI, gL_sL, gL_sA, gL_sM, aI_sI, aI_sL, aI_sA, aI_sM, aL_sI, aL_sL, aL_sA, aL_sM] at hg7
        try dsimp only [Nat.beq, gI_sI, gI_sL, gI_sA, gI_sM, gL_sI, gL_sL, gL_sA, gL_sM, aI_sI, aI_sL, aI_sA, aI_sM, aL_sI, aL_sL, aL_sA, aL_sM] at hw7
        try dsimp only [Nat.beq, gI_sI, gI_sL, gI_sA, gI_sM, gL_sI, gL_sL, gL_sA, gL_sM, aI_sI, aI_sL, aI_sA, aI_sM, aL_sI, aL_sL, aL_sA, aL_sM] at hv7
        try dsimp only [Nat.beq, gI_sI, gI_sL, gI_sA, gI_sM, gL_sI, gL_sL, gL_sA, gL_sM, aI_sI, aI_sL, aI_sA, aI_sM, aL_sI, aL_sL, aL_sA, aL_sM] at ht7
        have hz7 := congrFun ht7 (gI τ7 14).toNatClampNeg
        dsimp only [Option.toList, List.cons_append, List.nil_append, Nat.beq, gI_sI, gI_sL, gI_sA, gI_sM, gL_sI, gL_sL, gL_sA, gL_sM, aI_sI, aI_sL, aI_sA, aI_sM, aL_sI, aL_sL, aL_sA, aL_sM]
        try simp only [hR7.e2, hR7.e14, hR7.e15, hR7.e17, hR7.e18, hR7.e36, hR7.e42, hR7.e49, hR7.e62, hR7.a3, hR7.a6, hR7.a51, hR7.a19, hR7.a63, hR7.a64, hR7.hp, hR2.e18]
        intro p8 q8
        try simp only [hR7.e2, hR7.e14, hR7.e15, hR7.e17, hR7.e18, hR7.e36, hR7.e42, hR7.e49, hR7.e62, hR7.a3, hR7.a6, hR7.a51, hR7.a19, hR7.a63, hR7.a64, hR7.hp, hR2.e18]
        refine ⟨⟨(Rj.w (md := 1) (by (repeat (first | exact hR7 | refine Rj.i ?_ rfl | refine Rj.a ?_ rfl | refine Rj.m ?_ | refine Rj.s ?_ (by decide) | refine Rj.o1 ?_ (by first | lia | (dsimp only [Nat.beq, gI_sI, gI_sL, gI_sA, gI_sM, gL_sI, gL_sL, gL_sA, gL_sM, aI_sI, aI_sL, aI_sA, aI_sM, aL_sI, aL_sL, aL_sA, aL_sM]; lia)) | refine Rj.o2 ?_ | refine Rj.f1 ?_ (by first | lia | (dsimp only [Nat.beq, gI_sI, gI_sL, gI_sA, gI_sM, gL_sI, gL_sL, gL_sA, gL_sM, aI_sI, aI_sL, aI_sA, aI_sM, aL_sI, aL_sL, aL_sA, aL_sM]; lia)) | refine Rj.f2 ?_ | refine Rj.fs ?_)))), (by first | exact True.intro | rfl)⟩, fun w9 τ9 w9' τ9' hq9 => ?_⟩
        obtain ⟨b9, rfl, rfl, rfl, rfl, hb9⟩ := hq9
        rcases hb9 with rfl | ⟨rfl, hf9⟩
        · dsimp only [Option.toList, List.cons_append, List.nil_append, Nat.beq, gI_sI, gI_sL, gI_sA, gI_sM, gL_sI, gL_sL, gL_sA, gL_sM, aI_sI, aI_sL, aI_sA, aI_sM, aL_sI, aL_sL, aL_sA, aL_sM]
          try simp only [hR7.e2, hR7.e14, hR7.e15, hR7.e17, hR7.e18, hR7.e36, hR7.e42, hR7.e49, hR7.e62, hR7.a3, hR7.a6, hR7.a51, hR7.a19, hR7.a63, hR7.a64, hR7.hp, hR2.e18]
          refine ⟨fun h10 => absurd h10 (by decide), fun h10 => ⟨(by exact h10), ?_⟩⟩
          clear h10
          refine hB _ _ _ _ _ _ _ _ (fun m11 hm11 => ?_)
          dsimp only [jgo, jwp, jst, jct, rfd, BforOf, Nat.beq, lv_args, rlk, rs1, rs2, rdl, rky, rcd, rno, rsw, Value.category, List.filter, List.take, List.drop, List.reverse, List.reverseAux, List.cons_append, List.nil_append, Option.toList, Int.toNat, Int.reduceToNat, if_pos, if_neg, reduceIte, ↓reduceIte, Nat.reduceAdd, Nat.reduceEqDiff, Nat.reduceBEq, beq_self_eq_true, Bool.not_true, Bool.not_false, Bool.and_true, Bool.and_false, Bool.true_and, Bool.false_and, gI_sI, gI_sL, gI_sA, gI_sM, gL_sI, gL_sL, gL_sA, gL_sM, aI_sI, aI_sL, aI_sA, aI_sM, aL_sI, aL_sL, aL_sA, aL_sM, BforOf_0, BforOf_29, BforOf_38, BforOf_40, BforOf_47, BforOf_55, BforOf_57, BforOf_66, BforOf_73, BforOf_75, BforOf_84, BforOf_86, BforOf_109, BforOf_113, BforOf_114, BforOf_121, BforOf_128, BforOf_130, BforOf_151, BforOf_155, BforOf_156, BforOf_174, BforOf_176, BforOf_199, BforOf_206, BforOf_208, BforOf_217, BforOf_219, oi_0, oi_1, oi_20, oi_32, oi_33, oi_34, oi_35, oi_40, oi_41, oi_59, oi_6, Pj_declaration, Pu_emit, Pj_expression, Pj_exps, Pj_isSign, Pj_isTold, Pj_open, Pj_take, Pu_thing, Pj_want]; try dsimp only
          try simp only [hR7.e2, hR7.e14, hR7.e15, hR7.e17, hR7.e18, hR7.e36, hR7.e42, hR7.e49, hR7.e62, hR7.a3, hR7.a6, hR7.a51, hR7.a19, hR7.a63, hR7.a64, hR7.hp, hR2.e18]
          refine hB _ _ _ _ _ _ _ _ (fun m12 hm12 => ?_)
          dsimp only [jgo, jwp, jst, jct, rfd, BforOf, Nat.beq, lv_args, rlk, rs1, rs2, rdl, rky, rcd, rno, rsw, Value.category, List.filter, List.take, List.drop, List.reverse, List.reverseAux, List.cons_append, List.nil_append, Option.toList, Int.toNat, Int.reduceToNat, if_pos, if_neg, reduceIte, ↓reduceIte, Nat.reduceAdd, Nat.reduceEqDiff, Nat.reduceBEq, beq_self_eq_true, Bool.not_true, Bool.not_false, Bool.and_true, Bool.and_false, Bool.true_and, Bool.false_and, gI_sI, gI_sL, gI_sA, gI_sM, gL_sI, gL_sL, gL_sA, gL_sM, aI_sI, aI_sL, aI_sA, aI_sM, aL_sI, aL_sL, aL_sA, aL_sM, BforOf_0, BforOf_29, BforOf_38, BforOf_40, BforOf_47, BforOf_55, BforOf_57, BforOf_66, BforOf_73, BforOf_75, BforOf_84, BforOf_86, BforOf_109, BforOf_113, BforOf_114, BforOf_121, BforOf_128, BforOf_130, BforOf_151, BforOf_155, BforOf_156, BforOf_174, BforOf_176, BforOf_199, BforOf_206, BforOf_208, BforOf_217, BforOf_219, oi_0, oi_1, oi_20, oi_32, oi_33, oi_34, oi_35, oi_40, oi_41, oi_59, oi_6, Pj_declaration, Pu_emit, Pj_expression, Pj_exps, Pj_isSign, Pj_isTold, Pj_open, Pj_take, Pu_thing, Pj_want]; try dsimp only
          try simp only [hR7.e2, hR7.e14, hR7.e15, hR7.e17, hR7.e18, hR7.e36, hR7.e42, hR7.e49, hR7.e62, hR7.a3, hR7.a6, hR7.a51, hR7.a19, hR7.a63, hR7.a64, hR7.hp, hR2.e18]
          refine ⟨fun h13 => absurd h13 (by decide), fun h13 => ⟨(by exact h13), ?_⟩⟩
          clear h13
          refine hB _ _ _ _ _ _ _ _ (fun m14 hm14 => ?_)
          dsimp only [jgo, jwp, jst, jct, rfd, BforOf, Nat.beq, lv_args, rlk, rs1, rs2, rdl, rky, rcd, rno, rsw, Value.category, List.filter, List.take, List.drop, List.reverse, List.reverseAux, List.cons_append, List.nil_append, Option.toList, Int.toNat, Int.reduceToNat, if_pos, if_neg, reduceIte, ↓reduceIte, Nat.reduceAdd, Nat.reduceEqDiff, Nat.reduceBEq, beq_self_eq_true, Bool.not_true, Bool.not_false, Bool.and_true, Bool.and_false, Bool.true_and, Bool.false_and, gI_sI, gI_sL, gI_sA, gI_sM, gL_sI, gL_sL, gL_sA, gL_sM, aI_sI, aI_sL, aI_sA, aI_sM, aL_sI, aL_sL, aL_sA, aL_sM, BforOf_0, BforOf_29, BforOf_38, BforOf_40, BforOf_47, BforOf_55, BforOf_57, BforOf_66, BforOf_73, BforOf_75, BforOf_84, BforOf_86, BforOf_109, BforOf_113, BforOf_114, BforOf_121, BforOf_128, BforOf_130, BforOf_151, BforOf_155, BforOf_156, BforOf_174, BforOf_176, BforOf_199, BforOf_206, BforOf_208, BforOf_217, BforOf_219, oi_0, oi_1, oi_20, oi_32, oi_33, oi_34, oi_35, oi_40, oi_41, oi_59, oi_6, Pj_declaration, Pu_emit, Pj_expression, Pj_exps, Pj_isSign, Pj_isTold, Pj_open, Pj_take, Pu_thing, Pj_want]; try dsimp only
          try simp only [hR7.e2, hR7.e14, hR7.e15, hR7.e17, hR7.e18, hR7.e36, hR7.e42, hR7.e49, hR7.e62, hR7.a3, hR7.a6, hR7.a51, hR7.a19, hR7.a63, hR7.a64, hR7.hp, hR2.e18]
          refine ⟨(by (repeat (first | exact hR7 | refine Rj.i ?_ rfl | refine Rj.a ?_ rfl | refine Rj.m ?_ | refine Rj.s ?_ (by decide) | refine Rj.o1 ?_ (by first | lia | (dsimp only [Nat.beq, gI_sI, gI_sL, gI_sA, gI_sM, gL_sI, gL_sL, gL_sA, gL_sM, aI_sI, aI_sL, aI_sA, aI_sM, aL_sI, aL_sL, aL_sA, aL_sM]; lia)) | refine Rj.o2 ?_ | refine Rj.f1 ?_ (by first | lia | (dsimp only [Nat.beq, gI_sI, gI_sL, gI_sA, gI_sM, gL_sI, gL_sL, gL_sA, gL_sM, aI_sI, aI_sL, aI_sA, aI_sM, aL_sI, aL_sL, aL_sA, aL_sM]; lia)) | refine Rj.f2 ?_ | refine Rj.fs ?_))), fun w15 τ15 w15' τ15' hq15 => ?_⟩
          obtain ⟨b15, rfl, rfl, hb15⟩ := hq15
          rcases hb15 with rfl | ⟨rfl, hR15, hk15⟩
          · dsimp only [Option.toList, List.cons_append, List.nil_append, Nat.beq, gI_sI, gI_sL, gI_sA, gI_sM, gL_sI, gL_sL, gL_sA, gL_sM, aI_sI, aI_sL, aI_sA, aI_sM, aL_sI, aL_sL, aL_sA, aL_sM]
            try simp only [hR7.e2, hR7.e14, hR7.e15, hR7.e17, hR7.e18, hR7.e36, hR7.e42, hR7.e49, hR7.e62, hR7.a3, hR7.a6, hR7.a51, hR7.a19, hR7.a63, hR7.a64, hR7.hp, hR2.e18]
            refine ⟨fun h16 => absurd h16 (by decide), fun h16 => ⟨(by exact h16), ?_⟩⟩
            clear h16
            refine hB _ _ _ _ _ _ _ _ (fun m17 hm17 => ?_)
            dsimp only [jgo, jwp, jst, jct, rfd, BforOf, Nat.beq, lv_args, rlk, rs1, rs2, rdl, rky, rcd, rno, rsw, Value.category, List.filter, List.take, List.drop, List.reverse, List.reverseAux, List.cons_append, List.nil_append, Option.toList, Int.toNat, Int.reduceToNat, if_pos, if_neg, reduceIte, ↓reduceIte, Nat.reduceAdd, Nat.reduceEqDiff, Nat.reduceBEq, beq_self_eq_true, Bool.not_true, Bool.not_false, Bool.and_true, Bool.and_false, Bool.true_and, Bool.false_and, gI_sI, gI_sL, gI_sA, gI_sM, gL_sI, gL_sL, gL_sA, gL_sM, aI_sI, aI_sL, aI_sA, aI_sM, aL_sI, aL_sL, aL_sA, aL_sM, BforOf_0, BforOf_29, BforOf_38, BforOf_40, BforOf_47, BforOf_55, BforOf_57, BforOf_66, BforOf_73, BforOf_75, BforOf_84, BforOf_86, BforOf_109, BforOf_113, BforOf_114, BforOf_121, BforOf_128, BforOf_130, BforOf_151, BforOf_155, BforOf_156, BforOf_174, BforOf_176, BforOf_199, BforOf_206, BforOf_208, BforOf_217, BforOf_219, oi_0, oi_1, oi_20, oi_32, oi_33, oi_34, oi_35, oi_40, oi_41, oi_59, oi_6, Pj_declaration, Pu_emit, Pj_expression, Pj_exps, Pj_isSign, Pj_isTold, Pj_open, Pj_take, Pu_thing, Pj_want]; try dsimp only
            try simp only [hR7.e2, hR7.e14, hR7.e15, hR7.e17, hR7.e18, hR7.e36, hR7.e42, hR7.e49, hR7.e62, hR7.a3, hR7.a6, hR7.a51, hR7.a19, hR7.a63, hR7.a64, hR7.hp, hR2.e18]
            unfold Qj_forOf
            try dsimp only
            exact ⟨_, rfl, rfl, Or.inl rfl⟩
          · dsimp only [Option.toList, List.cons_append, List.nil_append, Nat.beq, gI_sI, gI_sL, gI_sA, gI_sM, gL_sI, gL_sL, gL_sA, gL_sM, aI_sI, aI_sL, aI_sA, aI_sM, aL_sI, aL_sL, aL_sA, aL_sM]
            have hh15 := hk15.1 62 rfl
            have hg15 := hk15.1 49 rfl
            try dsimp only [Nat.beq, gI_sI, gI_sL, gI_sA, gI_sM, gL_sI, gL_sL, gL_sA, gL_sM, aI_sI, aI_sL, aI_sA, aI_sM, aL_sI, aL_sL, aL_sA, aL_sM] at hh15
            try dsimp only [Nat.beq, gI_sI, gI_sL, gI_sA, gI_sM, gL_sI, gL_sL, gL_sA, gL_sM, aI_sI, aI_sL, aI_sA, aI_sM, aL_sI, aL_sL, aL_sA, aL_sM] at hg15
            try simp only [hR15.e2, hR15.e14, hR15.e15, hR15.e17, hR15.e18, hR15.e36, hR15.e42, hR15.e49, hR15.e62, hR15.a3, hR15.a6, hR15.a51, hR15.a19, hR15.a63, hR15.a64, hR15.hp, hR2.e18]
            refine ⟨fun h18 => ⟨(by exact h18), ?_⟩, fun h18 => absurd h18 (by decide)⟩
            clear h18
            exact hW _ 130 [(0, .ref 1000), (1, .int t), (2, .int s), (3, .int k), (4, .int 1)] [(0, .ref 1000), (1, .int t), (2, .int s), (3, .int k), (4, .int 1)] _ _ _ _ _ _ (by simp [rdl, rky]) (by simp [rdl, rky]) (t130 _ _ _ t s k 1 (by (repeat (first | exact hR15 | refine Rj.i ?_ rfl | refine Rj.a ?_ rfl | refine Rj.m ?_ | refine Rj.s ?_ (by decide) | refine Rj.o1 ?_ (by first | lia | (dsimp only [Nat.beq, gI_sI, gI_sL, gI_sA, gI_sM, gL_sI, gL_sL, gL_sA, gL_sM, aI_sI, aI_sL, aI_sA, aI_sM, aL_sI, aL_sL, aL_sA, aL_sM]; lia)) | refine Rj.o2 ?_ | refine Rj.f1 ?_ (by first | lia | (dsimp only [Nat.beq, gI_sI, gI_sL, gI_sA, gI_sM, gL_sI, gL_sL, gL_sA, gL_sM, aI_sI, aI_sL, aI_sA, aI_sM, aL_sI, aL_sL, aL_sA, aL_sM]; lia)) | refine Rj.f2 ?_ | refine Rj.fs ?_))) (by first | lia | (dsimp only [Nat.beq, gI_sI, gI_sL, gI_sA, gI_sM, gL_sI, gL_sL, gL_sA, gL_sM, aI_sI, aI_sL, aI_sA, aI_sM, aL_sI, aL_sL, aL_sA, aL_sM]; lia)))
        · dsimp only [Option.toList, List.cons_append, List.nil_append, Nat.beq, gI_sI, gI_sL, gI_sA, gI_sM, gL_sI, gL_sL, gL_sA, gL_sM, aI_sI, aI_sL, aI_sA, aI_sM, aL_sI, aL_sL, aL_sA, aL_sM]
          try dsimp only [Nat.beq, gI_sI, gI_sL, gI_sA, gI_sM, gL_sI, gL_sL, gL_sA, gL_sM, aI_sI, aI_sL, aI_sA, aI_sM, aL_sI, aL_sL, aL_sA, aL_sM] at hf9
          try simp only [hR7.e2, hR7.e14, hR7.e15, hR7.e17, hR7.e18, hR7.e36, hR7.e42, hR7.e49, hR7.e62, hR7.a3, hR7.a6, hR7.a51, hR7.a19, hR7.a63, hR7.a64, hR7.hp, hR2.e18]
          refine ⟨fun h19 => ⟨(by exact h19), ?_⟩, fun h19 => absurd h19 (by decide)⟩
          clear h19
          refine hB _ _ _ _ _ _ _ _ (fun m20 hm20 => ?_)
          dsimp only [jgo, jwp, jst, jct, rfd, BforOf, Nat.beq, lv_args, rlk, rs1, rs2, rdl, rky, rcd, rno, rsw, Value.category, List.filter, List.take, List.drop, List.reverse, List.reverseAux, List.cons_append, List.nil_append, Option.toList, Int.toNat, Int.reduceToNat, if_pos, if_neg, reduceIte, ↓reduceIte, Nat.reduceAdd, Nat.reduceEqDiff, Nat.reduceBEq, beq_self_eq_true, Bool.not_true, Bool.not_false, Bool.and_true, Bool.and_false, Bool.true_and, Bool.false_and, gI_sI, gI_sL, gI_sA, gI_sM, gL_sI, gL_sL, gL_sA, gL_sM, aI_sI, aI_sL, aI_sA, aI_sM, aL_sI, aL_sL, aL_sA, aL_sM, BforOf_0, BforOf_29, BforOf_38, BforOf_40, BforOf_47, BforOf_55, BforOf_57, BforOf_66, BforOf_73, BforOf_75, BforOf_84, BforOf_86, BforOf_109, BforOf_113, BforOf_114, BforOf_121, BforOf_128, BforOf_130, BforOf_151, BforOf_155, BforOf_156, BforOf_174, BforOf_176, BforOf_199, BforOf_206, BforOf_208, BforOf_217, BforOf_219, oi_0, oi_1, oi_20, oi_32, oi_33, oi_34, oi_35, oi_40, oi_41, oi_59, oi_6, Pj_declaration, Pu_emit, Pj_expression, Pj_exps, Pj_isSign, Pj_isTold, Pj_open, Pj_take, Pu_thing, Pj_want]; try dsimp only
          try simp only [hR7.e2, hR7.e14, hR7.e15, hR7.e17, hR7.e18, hR7.e36, hR7.e42, hR7.e49, hR7.e62, hR7.a3, hR7.a6, hR7.a51, hR7.a19, hR7.a63, hR7.a64, hR7.hp, hR2.e18]
          refine hB _ _ _ _ _ _ _ _ (fun m21 hm21 => ?_)
          dsimp only [jgo, jwp, jst, jct, rfd, BforOf, Nat.beq, lv_args, rlk, rs1, rs2, rdl, rky, rcd, rno, rsw, Value.category, List.filter, List.take, List.drop, List.reverse, List.reverseAux, List.cons_append, List.nil_append, Option.toList, Int.toNat, Int.reduceToNat, if_pos, if_neg, reduceIte, ↓reduceIte, Nat.reduceAdd, Nat.reduceEqDiff, Nat.reduceBEq, beq_self_eq_true, Bool.not_true, Bool.not_false, Bool.and_true, Bool.and_false, Bool.true_and, Bool.false_and, gI_sI, gI_sL, gI_sA, gI_sM, gL_sI, gL_sL, gL_sA, gL_sM, aI_sI, aI_sL, aI_sA, aI_sM, aL_sI, aL_sL, aL_sA, aL_sM, BforOf_0, BforOf_29, BforOf_38, BforOf_40, BforOf_47, BforOf_55, BforOf_57, BforOf_66, BforOf_73, BforOf_75, BforOf_84, BforOf_86, BforOf_109, BforOf_113, BforOf_114, BforOf_121, BforOf_128, BforOf_130, BforOf_151, BforOf_155, BforOf_156, BforOf_174, BforOf_176, BforOf_199, BforOf_206, BforOf_208, BforOf_217, BforOf_219, oi_0, oi_1, oi_20, oi_32, oi_33, oi_34, oi_35, oi_40, oi_41, oi_59, oi_6, Pj_declaration, Pu_emit, Pj_expression, Pj_exps, Pj_isSign, Pj_isTold, Pj_open, Pj_take, Pu_thing, Pj_want]; try dsimp only
          try simp only [hR7.e2, hR7.e14, hR7.e15, hR7.e17, hR7.e18, hR7.e36, hR7.e42, hR7.e49, hR7.e62, hR7.a3, hR7.a6, hR7.a51, hR7.a19, hR7.a63, hR7.a64, hR7.hp, hR2.e18]
          refine ⟨fun h22 => ⟨(by exact h22), ?_⟩, fun h22 => absurd h22 (by decide)⟩
          clear h22
          exact hW _ 130 [(0, .ref 1000), (1, .int t), (2, .int s), (3, .int k), (4, .int 0)] [(0, .ref 1000), (1, .int t), (2, .int s), (3, .int k), (4, .int 0)] _ _ _ _ _ _ (by simp [rdl, rky]) (by simp [rdl, rky]) (t130 _ _ _ t s k 0 (by (repeat (first | exact hR7 | refine Rj.i ?_ rfl | refine Rj.a ?_ rfl | refine Rj.m ?_ | refine Rj.s ?_ (by decide) | refine Rj.o1 ?_ (by first | lia | (dsimp only [Nat.beq, gI_sI, gI_sL, gI_sA, gI_sM, gL_sI, gL_sL, gL_sA, gL_sM, aI_sI, aI_sL, aI_sA, aI_sM, aL_sI, aL_sL, aL_sA, aL_sM]; lia)) | refine Rj.o2 ?_ | refine Rj.f1 ?_ (by first | lia | (dsimp only [Nat.beq, gI_sI, gI_sL, gI_sA, gI_sM, gL_sI, gL_sL, gL_sA, gL_sM, aI_sI, aI_sL, aI_sA, aI_sM, aL_sI, aL_sL, aL_sA, aL_sM]; lia)) | refine Rj.f2 ?_ | refine Rj.fs ?_))) (by first | lia | (dsimp only [Nat.beq, gI_sI, gI_sL, gI_sA, gI_sM, gL_sI, gL_sL, gL_sA, gL_sM, aI_sI, aI_sL, aI_sA, aI_sM, aL_sI, aL_sL, aL_sA, aL_sM]; lia)))
    intro n0
    refine hB _ _ _ _ _ _ _ _ (fun m1 hm1 => ?_)
    dsimp only [jgo, jwp, jst, jct, rfd, BforOf, Nat.beq, lv_args, rlk, rs1, rs2, rdl, rky, rcd, rno, rsw, Value.category, List.filter, List.take, List.drop, List.reverse, List.reverseAux, List.cons_append, List.nil_append, Option.toList, Int.toNat, Int.reduceToNat, if_pos, if_neg, reduceIte, ↓reduceIte, Nat.reduceAdd, Nat.reduceEqDiff, Nat.reduceBEq, beq_self_eq_true, Bool.not_true, Bool.not_false, Bool.and_true, Bool.and_false, Bool.true_and, Bool.false_and, gI_sI, gI_sL, gI_sA, gI_sM, gL_sI, gL_sL, gL_sA, gL_sM, aI_sI, aI_sL, aI_sA, aI_sM, aL_sI, aL_sL, aL_sA, aL_sM, BforOf_0, BforOf_29, BforOf_38, BforOf_40, BforOf_47, BforOf_55, BforOf_57, BforOf_66, BforOf_73, BforOf_75, BforOf_84, BforOf_86, BforOf_109, BforOf_113, BforOf_114, BforOf_121, BforOf_128, BforOf_130, BforOf_151, BforOf_155, BforOf_156, BforOf_174, BforOf_176, BforOf_199, BforOf_206, BforOf_208, BforOf_217, BforOf_219, oi_0, oi_1, oi_20, oi_32, oi_33, oi_34, oi_35, oi_40, oi_41, oi_59, oi_6, Pj_declaration, Pu_emit, Pj_expression, Pj_exps, Pj_isSign, Pj_isTold, Pj_open, Pj_take, Pu_thing, Pj_want]; try dsimp only
    try simp only [hR.e2, hR.e14, hR.e15, hR.e17, hR.e18, hR.e36, hR.e42, hR.e49, hR.e62, hR.a3, hR.a6, hR.a51, hR.a19, hR.a63, hR.a64, hR.hp]
    refine ⟨⟨trivial, trivial⟩, fun w2 τ2 w2' τ2' hq2 => ?_⟩
    obtain ⟨⟨rfl, hE2⟩, rfl, hF2⟩ := hq2
    have hR2 : Rj 1 τ2 τ2' := Rj.em (by (repeat (first | exact hR | refine Rj.i ?_ rfl | refine Rj.a ?_ rfl | refine Rj.m ?_ | refine Rj.s ?_ (by decide) | refine Rj.o1 ?_ (by first | lia | (dsimp only [Nat.beq, gI_sI, gI_sL, gI_sA, gI_sM, gL_sI, gL_sL, gL_sA, gL_sM, aI_sI, aI_sL, aI_sA, aI_sM, aL_sI, aL_sL, aL_sA, aL_sM]; lia)) | refine Rj.o2 ?_ | refine Rj.f1 ?_ (by first | lia | (dsimp only [Nat.beq, gI_sI, gI_sL, gI_sA, gI_sM, gL_sI, gL_sL, gL_sA, gL_sM, aI_sI, aI_sL, aI_sA, aI_sM, aL_sI, aL_sL, aL_sA, aL_sM]; lia)) | refine Rj.f2 ?_ | refine Rj.fs ?_))) hE2 hF2 (by first | exact fun _ => rfl | exact fun q => absurd q (by decide))
    have hp2 := hE2.1 14 (by decide)
    have ho2 := hE2.1 29 (by decide)
    have hh2 := hE2.1 62 (by decide)
    have hg2 := hE2.1 49 (by decide)
    have hw2 := hE2.1 34 (by decide)
    have hv2 := hF2.1 34 (by decide)
    have ht2 := hE2.2.2.2.2.1 3 (by decide)
    try dsimp only [Nat.beq, gI_sI, gI_sL, gI_sA, gI_sM, gL_sI, gL_sL, gL_sA, gL_sM, aI_sI, aI_sL, aI_sA, aI_sM, aL_sI, aL_sL, aL_sA, aL_sM] at hp2
    try dsimp only [Nat.beq, gI_sI, gI_sL, gI_sA, gI_sM, gL_sI, gL_sL, gL_sA, gL_sM, aI_sI, aI_sL, aI_sA, aI_sM, aL_sI, aL_sL, aL_sA, aL_sM] at ho2
    try dsimp only [Nat.beq, gI_sI, gI_sL, gI_sA, gI_sM, gL_sI, gL_sL, gL_sA, gL_sM, aI_sI, aI_sL, aI_sA, aI_sM, aL_sI, aL_sL, aL_sA, aL_sM] at hh2
    try dsimp only [Nat.beq, gI_sI, gI_sL, gI_sA, gI_sM, gL_sI, gL_sL, gL_sA, gL_sM, aI_sI, aI_sL, aI_sA, aI_sM, aL_sI, aL_sL, aL_sA, aL_sM] at hg2
    try dsimp only [Nat.beq, gI_sI, gI_sL, gI_sA, gI_sM, gL_sI, gL_sL, gL_sA, gL_sM, aI_sI, aI_sL, aI_sA, aI_sM, aL_sI, aL_sL, aL_sA, aL_sM] at hw2
    try dsimp only [Nat.beq, gI_sI, gI_sL, gI_sA, gI_sM, gL_sI, gL_sL, gL_sA, gL_sM, aI_sI, aI_sL, aI_sA, aI_sM, aL_sI, aL_sL, aL_sA, aL_sM] at hv2
    try dsimp only [Nat.beq, gI_sI, gI_sL, gI_sA, gI_sM, gL_sI, gL_sL, gL_sA, gL_sM, aI_sI, aI_sL, aI_sA, aI_sM, aL_sI, aL_sL, aL_sA, aL_sM] at ht2
    have hz2 := congrFun ht2 (gI τ2 14).toNatClampNeg
    dsimp only [Option.toList, List.cons_append, List.nil_append, Nat.beq, gI_sI, gI_sL, gI_sA, gI_sM, gL_sI, gL_sL, gL_sA, gL_sM, aI_sI, aI_sL, aI_sA, aI_sM, aL_sI, aL_sL, aL_sA, aL_sM]
    try simp only [hR2.e2, hR2.e14, hR2.e15, hR2.e17, hR2.e18, hR2.e36, hR2.e42, hR2.e49, hR2.e62, hR2.a3, hR2.a6, hR2.a51, hR2.a19, hR2.a63, hR2.a64, hR2.hp, hR.e18]
    refine ⟨⟨trivial, trivial⟩, fun w3 τ3 w3' τ3' hq3 => ?_⟩
    obtain ⟨⟨rfl, hE3⟩, rfl, hF3⟩ := hq3
    have hR3 : Rj 1 τ3 τ3' := Rj.th (by (repeat (first | exact hR2 | refine Rj.i ?_ rfl | refine Rj.a ?_ rfl | refine Rj.m ?_ | refine Rj.s ?_ (by decide) | refine Rj.o1 ?_ (by first | lia | (dsimp only [Nat.beq, gI_sI, gI_sL, gI_sA, gI_sM, gL_sI, gL_sL, gL_sA, gL_sM, aI_sI, aI_sL, aI_sA, aI_sM, aL_sI, aL_sL, aL_sA, aL_sM]; lia)) | refine Rj.o2 ?_ | refine Rj.f1 ?_ (by first | lia | (dsimp only [Nat.beq, gI_sI, gI_sL, gI_sA, gI_sM, gL_sI, gL_sL, gL_sA, gL_sM, aI_sI, aI_sL, aI_sA, aI_sM, aL_sI, aL_sL, aL_sA, aL_sM]; lia)) | refine Rj.f2 ?_ | refine Rj.fs ?_))) hE3 hF3
    have hl3 := hE3.lt
    try dsimp only [Nat.beq, gI_sI, gI_sL, gI_sA, gI_sM, gL_sI, gL_sL, gL_sA, gL_sM, aI_sI, aI_sL, aI_sA, aI_sM, aL_sI, aL_sL, aL_sA, aL_sM] at hl3
    have hp3 := hE3.1 14 (by decide)
    have hh3 := hE3.1 62 (by decide)
    have ht3 := hE3.2.2.2.1 3 (by decide)
    try dsimp only [Nat.beq, gI_sI, gI_sL, gI_sA, gI_sM, gL_sI, gL_sL, gL_sA, gL_sM, aI_sI, aI_sL, aI_sA, aI_sM, aL_sI, aL_sL, aL_sA, aL_sM] at hp3
    try dsimp only [Nat.beq, gI_sI, gI_sL, gI_sA, gI_sM, gL_sI, gL_sL, gL_sA, gL_sM, aI_sI, aI_sL, aI_sA, aI_sM, aL_sI, aL_sL, aL_sA, aL_sM] at hh3
    try dsimp only [Nat.beq, gI_sI, gI_sL, gI_sA, gI_sM, gL_sI, gL_sL, gL_sA, gL_sM, aI_sI, aI_sL, aI_sA, aI_sM, aL_sI, aL_sL, aL_sA, aL_sM] at ht3
    have hz3 := congrFun ht3 (gI τ3 14).toNatClampNeg
    dsimp only [Option.toList, List.cons_append, List.nil_append, Nat.beq, gI_sI, gI_sL, gI_sA, gI_sM, gL_sI, gL_sL, gL_sA, gL_sM, aI_sI, aI_sL, aI_sA, aI_sM, aL_sI, aL_sL, aL_sA, aL_sM]
    try simp only [hR3.e2, hR3.e14, hR3.e15, hR3.e17, hR3.e18, hR3.e36, hR3.e42, hR3.e49, hR3.e62, hR3.a3, hR3.a6, hR3.a51, hR3.a19, hR3.a63, hR3.a64, hR3.hp, hR.e18, hR2.e49]
    refine ⟨⟨(Rj.w (md := 1) (by (repeat (first | exact hR3 | refine Rj.i ?_ rfl | refine Rj.a ?_ rfl | refine Rj.m ?_ | refine Rj.s ?_ (by decide) | refine Rj.o1 ?_ (by first | lia | (dsimp only [Nat.beq, gI_sI, gI_sL, gI_sA, gI_sM, gL_sI, gL_sL, gL_sA, gL_sM, aI_sI, aI_sL, aI_sA, aI_sM, aL_sI, aL_sL, aL_sA, aL_sM]; lia)) | refine Rj.o2 ?_ | refine Rj.f1 ?_ (by first | lia | (dsimp only [Nat.beq, gI_sI, gI_sL, gI_sA, gI_sM, gL_sI, gL_sL, gL_sA, gL_sM, aI_sI, aI_sL, aI_sA, aI_sM, aL_sI, aL_sL, aL_sA, aL_sM]; lia)) | refine Rj.f2 ?_ | refine Rj.fs ?_)))), by lia, by lia⟩, fun w4 τ4 w4' τ4' hq4 => ?_⟩
    obtain ⟨b4, rfl, rfl, hb4⟩ := hq4
    rcases hb4 with rfl | ⟨rfl, hr4, hk4, hx4⟩
    · dsimp only [Option.toList, List.cons_append, List.nil_append, Nat.beq, gI_sI, gI_sL, gI_sA, gI_sM, gL_sI, gL_sL, gL_sA, gL_sM, aI_sI, aI_sL, aI_sA, aI_sM, aL_sI, aL_sL, aL_sA, aL_sM]
      try simp only [hR3.e2, hR3.e14, hR3.e15, hR3.e17, hR3.e18, hR3.e36, hR3.e42, hR3.e49, hR3.e62, hR3.a3, hR3.a6, hR3.a51, hR3.a19, hR3.a63, hR3.a64, hR3.hp, hR.e18, hR2.e49]
      refine ⟨fun h5 => ⟨(by exact h5), ?_⟩, fun h5 => absurd h5 (by decide)⟩
      clear h5
      refine hB _ _ _ _ _ _ _ _ (fun m6 hm6 => ?_)
      dsimp only [jgo, jwp, jst, jct, rfd, BforOf, Nat.beq, lv_args, rlk, rs1, rs2, rdl, rky, rcd, rno, rsw, Value.category, List.filter, List.take, List.drop, List.reverse, List.reverseAux, List.cons_append, List.nil_append, Option.toList, Int.toNat, Int.reduceToNat, if_pos, if_neg, reduceIte, ↓reduceIte, Nat.reduceAdd, Nat.reduceEqDiff, Nat.reduceBEq, beq_self_eq_true, Bool.not_true, Bool.not_false, Bool.and_true, Bool.and_false, Bool.true_and, Bool.false_and, gI_sI, gI_sL, gI_sA, gI_sM, gL_sI, gL_sL, gL_sA, gL_sM, aI_sI, aI_sL, aI_sA, aI_sM, aL_sI, aL_sL, aL_sA, aL_sM, BforOf_0, BforOf_29, BforOf_38, BforOf_40, BforOf_47, BforOf_55, BforOf_57, BforOf_66, BforOf_73, BforOf_75, BforOf_84, BforOf_86, BforOf_109, BforOf_113, BforOf_114, BforOf_121, BforOf_128, BforOf_130, BforOf_151, BforOf_155, BforOf_156, BforOf_174, BforOf_176, BforOf_199, BforOf_206, BforOf_208, BforOf_217, BforOf_219, oi_0, oi_1, oi_20, oi_32, oi_33, oi_34, oi_35, oi_40, oi_41, oi_59, oi_6, Pj_declaration, Pu_emit, Pj_expression, Pj_exps, Pj_isSign, Pj_isTold, Pj_open, Pj_take, Pu_thing, Pj_want]; try dsimp only
      try simp only [hR3.e2, hR3.e14, hR3.e15, hR3.e17, hR3.e18, hR3.e36, hR3.e42, hR3.e49, hR3.e62, hR3.a3, hR3.a6, hR3.a51, hR3.a19, hR3.a63, hR3.a64, hR3.hp, hR.e18, hR2.e49]
      unfold Qj_forOf
      try dsimp only
      exact ⟨_, rfl, rfl, Or.inl rfl⟩
    · dsimp only [Option.toList, List.cons_append, List.nil_append, Nat.beq, gI_sI, gI_sL, gI_sA, gI_sM, gL_sI, gL_sL, gL_sA, gL_sM, aI_sI, aI_sL, aI_sA, aI_sM, aL_sI, aL_sL, aL_sA, aL_sM]
      have hR4 : Rj 1 τ4 τ4' := hr4 _ (by (repeat (first | exact hR3 | refine Rj.i ?_ rfl | refine Rj.a ?_ rfl | refine Rj.m ?_ | refine Rj.s ?_ (by decide) | refine Rj.o1 ?_ (by first | lia | (dsimp only [Nat.beq, gI_sI, gI_sL, gI_sA, gI_sM, gL_sI, gL_sL, gL_sA, gL_sM, aI_sI, aI_sL, aI_sA, aI_sM, aL_sI, aL_sL, aL_sA, aL_sM]; lia)) | refine Rj.o2 ?_ | refine Rj.f1 ?_ (by first | lia | (dsimp only [Nat.beq, gI_sI, gI_sL, gI_sA, gI_sM, gL_sI, gL_sL, gL_sA, gL_sM, aI_sI, aI_sL, aI_sA, aI_sM, aL_sI, aL_sL, aL_sA, aL_sM]; lia)) | refine Rj.f2 ?_ | refine Rj.fs ?_)))
      have ht4 := hk4.2 3 rfl
      have hc4 := hk4.1 2 rfl
      try dsimp only [Nat.beq, gI_sI, gI_sL, gI_sA, gI_sM, gL_sI, gL_sL, gL_sA, gL_sM, aI_sI, aI_sL, aI_sA, aI_sM, aL_sI, aL_sL, aL_sA, aL_sM] at hx4
      try dsimp only [Nat.beq, gI_sI, gI_sL, gI_sA, gI_sM, gL_sI, gL_sL, gL_sA, gL_sM, aI_sI, aI_sL, aI_sA, aI_sM, aL_sI, aL_sL, aL_sA, aL_sM] at ht4
      try dsimp only [Nat.beq, gI_sI, gI_sL, gI_sA, gI_sM, gL_sI, gL_sL, gL_sA, gL_sM, aI_sI, aI_sL, aI_sA, aI_sM, aL_sI, aL_sL, aL_sA, aL_sM] at hc4
      have hh4 := hk4.1 62 rfl
      have hg4 := hk4.1 49 rfl
      try dsimp only [Nat.beq, gI_sI, gI_sL, gI_sA, gI_sM, gL_sI, gL_sL, gL_sA, gL_sM, aI_sI, aI_sL, aI_sA, aI_sM, aL_sI, aL_sL, aL_sA, aL_sM] at hh4
      try dsimp only [Nat.beq, gI_sI, gI_sL, gI_sA, gI_sM, gL_sI, gL_sL, gL_sA, gL_sM, aI_sI, aI_sL, aI_sA, aI_sM, aL_sI, aL_sL, aL_sA, aL_sM] at hg4
      have hz4 := congrFun ht4 (gI τ4 14).toNatClampNeg
      try simp only [hR4.e2, hR4.e14, hR4.e15, hR4.e17, hR4.e18, hR4.e36, hR4.e42, hR4.e49, hR4.e62, hR4.a3, hR4.a6, hR4.a51, hR4.a19, hR4.a63, hR4.a64, hR4.hp, hR.e18, hR2.e49]
      refine ⟨fun h7 => absurd h7 (by decide), fun h7 => ⟨(by exact h7), ?_⟩⟩
      clear h7
      refine hB _ _ _ _ _ _ _ _ (fun m8 hm8 => ?_)
      dsimp only [jgo, jwp, jst, jct, rfd, BforOf, Nat.beq, lv_args, rlk, rs1, rs2, rdl, rky, rcd, rno, rsw, Value.category, List.filter, List.take, List.drop, List.reverse, List.reverseAux, List.cons_append, List.nil_append, Option.toList, Int.toNat, Int.reduceToNat, if_pos, if_neg, reduceIte, ↓reduceIte, Nat.reduceAdd, Nat.reduceEqDiff, Nat.reduceBEq, beq_self_eq_true, Bool.not_true, Bool.not_false, Bool.and_true, Bool.and_false, Bool.true_and, Bool.false_and, gI_sI, gI_sL, gI_sA, gI_sM, gL_sI, gL_sL, gL_sA, gL_sM, aI_sI, aI_sL, aI_sA, aI_sM, aL_sI, aL_sL, aL_sA, aL_sM, BforOf_0, BforOf_29, BforOf_38, BforOf_40, BforOf_47, BforOf_55, BforOf_57, BforOf_66, BforOf_73, BforOf_75, BforOf_84, BforOf_86, BforOf_109, BforOf_113, BforOf_114, BforOf_121, BforOf_128, BforOf_130, BforOf_151, BforOf_155, BforOf_156, BforOf_174, BforOf_176, BforOf_199, BforOf_206, BforOf_208, BforOf_217, BforOf_219, oi_0, oi_1, oi_20, oi_32, oi_33, oi_34, oi_35, oi_40, oi_41, oi_59, oi_6, Pj_declaration, Pu_emit, Pj_expression, Pj_exps, Pj_isSign, Pj_isTold, Pj_open, Pj_take, Pu_thing, Pj_want]; try dsimp only
      try simp only [hR4.e2, hR4.e14, hR4.e15, hR4.e17, hR4.e18, hR4.e36, hR4.e42, hR4.e49, hR4.e62, hR4.a3, hR4.a6, hR4.a51, hR4.a19, hR4.a63, hR4.a64, hR4.hp, hR.e18, hR2.e49]
      refine ⟨⟨(Rj.w (md := 1) (by (repeat (first | exact hR4 | refine Rj.i ?_ rfl | refine Rj.a ?_ rfl | refine Rj.m ?_ | refine Rj.s ?_ (by decide) | refine Rj.o1 ?_ (by first | lia | (dsimp only [Nat.beq, gI_sI, gI_sL, gI_sA, gI_sM, gL_sI, gL_sL, gL_sA, gL_sM, aI_sI, aI_sL, aI_sA, aI_sM, aL_sI, aL_sL, aL_sA, aL_sM]; lia)) | refine Rj.o2 ?_ | refine Rj.f1 ?_ (by first | lia | (dsimp only [Nat.beq, gI_sI, gI_sL, gI_sA, gI_sM, gL_sI, gL_sL, gL_sA, gL_sM, aI_sI, aI_sL, aI_sA, aI_sM, aL_sI, aL_sL, aL_sA, aL_sM]; lia)) | refine Rj.f2 ?_ | refine Rj.fs ?_)))), (by first | exact True.intro | rfl)⟩, fun w9 τ9 w9' τ9' hq9 => ?_⟩
      obtain ⟨b9, rfl, rfl, hb9⟩ := hq9
      rcases hb9 with rfl | ⟨rfl, hr9, hk9, hx9⟩
      · dsimp only [Option.toList, List.cons_append, List.nil_append, Nat.beq, gI_sI, gI_sL, gI_sA, gI_sM, gL_sI, gL_sL, gL_sA, gL_sM, aI_sI, aI_sL, aI_sA, aI_sM, aL_sI, aL_sL, aL_sA, aL_sM]
        try simp only [hR4.e2, hR4.e14, hR4.e15, hR4.e17, hR4.e18, hR4.e36, hR4.e42, hR4.e49, hR4.e62, hR4.a3, hR4.a6, hR4.a51, hR4.a19, hR4.a63, hR4.a64, hR4.hp, hR.e18, hR2.e49]
        refine ⟨fun h10 => absurd h10 (by decide), fun h10 => ⟨(by exact h10), ?_⟩⟩
        clear h10
        refine hB _ _ _ _ _ _ _ _ (fun m11 hm11 => ?_)
        dsimp only [jgo, jwp, jst, jct, rfd, BforOf, Nat.beq, lv_args, rlk, rs1, rs2, rdl, rky, rcd, rno, rsw, Value.category, List.filter, List.take, List.drop, List.reverse, List.reverseAux, List.cons_append, List.nil_append, Option.toList, Int.toNat, Int.reduceToNat, if_pos, if_neg, reduceIte, ↓reduceIte, Nat.reduceAdd, Nat.reduceEqDiff, Nat.reduceBEq, beq_self_eq_true, Bool.not_true, Bool.not_false, Bool.and_true, Bool.and_false, Bool.true_and, Bool.false_and, gI_sI, gI_sL, gI_sA, gI_sM, gL_sI, gL_sL, gL_sA, gL_sM, aI_sI, aI_sL, aI_sA, aI_sM, aL_sI, aL_sL, aL_sA, aL_sM, BforOf_0, BforOf_29, BforOf_38, BforOf_40, BforOf_47, BforOf_55, BforOf_57, BforOf_66, BforOf_73, BforOf_75, BforOf_84, BforOf_86, BforOf_109, BforOf_113, BforOf_114, BforOf_121, BforOf_128, BforOf_130, BforOf_151, BforOf_155, BforOf_156, BforOf_174, BforOf_176, BforOf_199, BforOf_206, BforOf_208, BforOf_217, BforOf_219, oi_0, oi_1, oi_20, oi_32, oi_33, oi_34, oi_35, oi_40, oi_41, oi_59, oi_6, Pj_declaration, Pu_emit, Pj_expression, Pj_exps, Pj_isSign, Pj_isTold, Pj_open, Pj_take, Pu_thing, Pj_want]; try dsimp only
        try simp only [hR4.e2, hR4.e14, hR4.e15, hR4.e17, hR4.e18, hR4.e36, hR4.e42, hR4.e49, hR4.e62, hR4.a3, hR4.a6, hR4.a51, hR4.a19, hR4.a63, hR4.a64, hR4.hp, hR.e18, hR2.e49]
        unfold Qj_forOf
        try dsimp only
        exact ⟨_, rfl, rfl, Or.inl rfl⟩
      · dsimp only [Option.toList, List.cons_append, List.nil_append, Nat.beq, gI_sI, gI_sL, gI_sA, gI_sM, gL_sI, gL_sL, gL_sA, gL_sM, aI_sI, aI_sL, aI_sA, aI_sM, aL_sI, aL_sL, aL_sA, aL_sM]
        have hR9 : Rj 1 τ9 τ9' := hr9 _ (by (repeat (first | exact hR4 | refine Rj.i ?_ rfl | refine Rj.a ?_ rfl | refine Rj.m ?_ | refine Rj.s ?_ (by decide) | refine Rj.o1 ?_ (by first | lia | (dsimp only [Nat.beq, gI_sI, gI_sL, gI_sA, gI_sM, gL_sI, gL_sL, gL_sA, gL_sM, aI_sI, aI_sL, aI_sA, aI_sM, aL_sI, aL_sL, aL_sA, aL_sM]; lia)) | refine Rj.o2 ?_ | refine Rj.f1 ?_ (by first | lia | (dsimp only [Nat.beq, gI_sI, gI_sL, gI_sA, gI_sM, gL_sI, gL_sL, gL_sA, gL_sM, aI_sI, aI_sL, aI_sA, aI_sM, aL_sI, aL_sL, aL_sA, aL_sM]; lia)) | refine Rj.f2 ?_ | refine Rj.fs ?_)))
        have ht9 := hk9.2 3 rfl
        have hc9 := hk9.1 2 rfl
        try dsimp only [Nat.beq, gI_sI, gI_sL, gI_sA, gI_sM, gL_sI, gL_sL, gL_sA, gL_sM, aI_sI, aI_sL, aI_sA, aI_sM, aL_sI, aL_sL, aL_sA, aL_sM] at hx9
        try dsimp only [Nat.beq, gI_sI, gI_sL, gI_sA, gI_sM, gL_sI, gL_sL, gL_sA, gL_sM, aI_sI, aI_sL, aI_sA, aI_sM, aL_sI, aL_sL, aL_sA, aL_sM] at ht9
        try dsimp only [Nat.beq, gI_sI, gI_sL, gI_sA, gI_sM, gL_sI, gL_sL, gL_sA, gL_sM, aI_sI, aI_sL, aI_sA, aI_sM, aL_sI, aL_sL, aL_sA, aL_sM] at hc9
        have hh9 := hk9.1 62 rfl
        have hg9 := hk9.1 49 rfl
        try dsimp only [Nat.beq, gI_sI, gI_sL, gI_sA, gI_sM, gL_sI, gL_sL, gL_sA, gL_sM, aI_sI, aI_sL, aI_sA, aI_sM, aL_sI, aL_sL, aL_sA, aL_sM] at hh9
        try dsimp only [Nat.beq, gI_sI, gI_sL, gI_sA, gI_sM, gL_sI, gL_sL, gL_sA, gL_sM, aI_sI, aI_sL, aI_sA, aI_sM, aL_sI, aL_sL, aL_sA, aL_sM] at hg9
        have hz9 := congrFun ht9 (gI τ9 14).toNatClampNeg
        try simp only [hR9.e2, hR9.e14, hR9.e15, hR9.e17, hR9.e18, hR9.e36, hR9.e42, hR9.e49, hR9.e62, hR9.a3, hR9.a6, hR9.a51, hR9.a19, hR9.a63, hR9.a64, hR9.hp, hR.e18, hR2.e49]
        refine ⟨fun h12 => ⟨(by exact h12), ?_⟩, fun h12 => absurd h12 (by decide)⟩
        clear h12
        refine hB _ _ _ _ _ _ _ _ (fun m13 hm13 => ?_)
        dsimp only [jgo, jwp, jst, jct, rfd, BforOf, Nat.beq, lv_args, rlk, rs1, rs2, rdl, rky, rcd, rno, rsw, Value.category, List.filter, List.take, List.drop, List.reverse, List.reverseAux, List.cons_append, List.nil_append, Option.toList, Int.toNat, Int.reduceToNat, if_pos, if_neg, reduceIte, ↓reduceIte, Nat.reduceAdd, Nat.reduceEqDiff, Nat.reduceBEq, beq_self_eq_true, Bool.not_true, Bool.not_false, Bool.and_true, Bool.and_false, Bool.true_and, Bool.false_and, gI_sI, gI_sL, gI_sA, gI_sM, gL_sI, gL_sL, gL_sA, gL_sM, aI_sI, aI_sL, aI_sA, aI_sM, aL_sI, aL_sL, aL_sA, aL_sM, BforOf_0, BforOf_29, BforOf_38, BforOf_40, BforOf_47, BforOf_55, BforOf_57, BforOf_66, BforOf_73, BforOf_75, BforOf_84, BforOf_86, BforOf_109, BforOf_113, BforOf_114, BforOf_121, BforOf_128, BforOf_130, BforOf_151, BforOf_155, BforOf_156, BforOf_174, BforOf_176, BforOf_199, BforOf_206, BforOf_208, BforOf_217, BforOf_219, oi_0, oi_1, oi_20, oi_32, oi_33, oi_34, oi_35, oi_40, oi_41, oi_59, oi_6, Pj_declaration, Pu_emit, Pj_expression, Pj_exps, Pj_isSign, Pj_isTold, Pj_open, Pj_take, Pu_thing, Pj_want]; try dsimp only
        try simp only [hR9.e2, hR9.e14, hR9.e15, hR9.e17, hR9.e18, hR9.e36, hR9.e42, hR9.e49, hR9.e62, hR9.a3, hR9.a6, hR9.a51, hR9.a19, hR9.a63, hR9.a64, hR9.hp, hR.e18, hR2.e49]
        refine ⟨(Rj.w (md := 1) (by (repeat (first | exact hR9 | refine Rj.i ?_ rfl | refine Rj.a ?_ rfl | refine Rj.m ?_ | refine Rj.s ?_ (by decide) | refine Rj.o1 ?_ (by first | lia | (dsimp only [Nat.beq, gI_sI, gI_sL, gI_sA, gI_sM, gL_sI, gL_sL, gL_sA, gL_sM, aI_sI, aI_sL, aI_sA, aI_sM, aL_sI, aL_sL, aL_sA, aL_sM]; lia)) | refine Rj.o2 ?_ | refine Rj.f1 ?_ (by first | lia | (dsimp only [Nat.beq, gI_sI, gI_sL, gI_sA, gI_sM, gL_sI, gL_sL, gL_sA, gL_sM, aI_sI, aI_sL, aI_sA, aI_sM, aL_sI, aL_sL, aL_sA, aL_sM]; lia)) | refine Rj.f2 ?_ | refine Rj.fs ?_)))), fun w14 τ14 w14' τ14' hq14 => ?_⟩
        obtain ⟨b14, rfl, rfl, rfl, rfl, hb14⟩ := hq14
        rcases hb14 with rfl | ⟨rfl, hf14⟩
        · dsimp only [Option.toList, List.cons_append, List.nil_append, Nat.beq, gI_sI, gI_sL, gI_sA, gI_sM, gL_sI, gL_sL, gL_sA, gL_sM, aI_sI, aI_sL, aI_sA, aI_sM, aL_sI, aL_sL, aL_sA, aL_sM]
          try simp only [hR9.e2, hR9.e14, hR9.e15, hR9.e17, hR9.e18, hR9.e36, hR9.e42, hR9.e49, hR9.e62, hR9.a3, hR9.a6, hR9.a51, hR9.a19, hR9.a63, hR9.a64, hR9.hp, hR.e18, hR2.e49]
          refine ⟨fun h15 => ⟨(by exact h15), ?_⟩, fun h15 => absurd h15 (by decide)⟩
          clear h15
          refine hB _ _ _ _ _ _ _ _ (fun m16 hm16 => ?_)
          dsimp only [jgo, jwp, jst, jct, rfd, BforOf, Nat.beq, lv_args, rlk, rs1, rs2, rdl, rky, rcd, rno, rsw, Value.category, List.filter, List.take, List.drop, List.reverse, List.reverseAux, List.cons_append, List.nil_append, Option.toList, Int.toNat, Int.reduceToNat, if_pos, if_neg, reduceIte, ↓reduceIte, Nat.reduceAdd, Nat.reduceEqDiff, Nat.reduceBEq, beq_self_eq_true, Bool.not_true, Bool.not_false, Bool.and_true, Bool.and_false, Bool.true_and, Bool.false_and, gI_sI, gI_sL, gI_sA, gI_sM, gL_sI, gL_sL, gL_sA, gL_sM, aI_sI, aI_sL, aI_sA, aI_sM, aL_sI, aL_sL, aL_sA, aL_sM, BforOf_0, BforOf_29, BforOf_38, BforOf_40, BforOf_47, BforOf_55, BforOf_57, BforOf_66, BforOf_73, BforOf_75, BforOf_84, BforOf_86, BforOf_109, BforOf_113, BforOf_114, BforOf_121, BforOf_128, BforOf_130, BforOf_151, BforOf_155, BforOf_156, BforOf_174, BforOf_176, BforOf_199, BforOf_206, BforOf_208, BforOf_217, BforOf_219, oi_0, oi_1, oi_20, oi_32, oi_33, oi_34, oi_35, oi_40, oi_41, oi_59, oi_6, Pj_declaration, Pu_emit, Pj_expression, Pj_exps, Pj_isSign, Pj_isTold, Pj_open, Pj_take, Pu_thing, Pj_want]; try dsimp only
          try simp only [hR9.e2, hR9.e14, hR9.e15, hR9.e17, hR9.e18, hR9.e36, hR9.e42, hR9.e49, hR9.e62, hR9.a3, hR9.a6, hR9.a51, hR9.a19, hR9.a63, hR9.a64, hR9.hp, hR.e18, hR2.e49]
          refine ⟨⟨(Rj.w (md := 1) (by (repeat (first | exact hR9 | refine Rj.i ?_ rfl | refine Rj.a ?_ rfl | refine Rj.m ?_ | refine Rj.s ?_ (by decide) | refine Rj.o1 ?_ (by first | lia | (dsimp only [Nat.beq, gI_sI, gI_sL, gI_sA, gI_sM, gL_sI, gL_sL, gL_sA, gL_sM, aI_sI, aI_sL, aI_sA, aI_sM, aL_sI, aL_sL, aL_sA, aL_sM]; lia)) | refine Rj.o2 ?_ | refine Rj.f1 ?_ (by first | lia | (dsimp only [Nat.beq, gI_sI, gI_sL, gI_sA, gI_sM, gL_sI, gL_sL, gL_sA, gL_sM, aI_sI, aI_sL, aI_sA, aI_sM, aL_sI, aL_sL, aL_sA, aL_sM]; lia)) | refine Rj.f2 ?_ | refine Rj.fs ?_)))), (by first | exact True.intro | rfl)⟩, fun w17 τ17 w17' τ17' hq17 => ?_⟩
          obtain ⟨b17, rfl, rfl, rfl, rfl, hb17⟩ := hq17
          rcases hb17 with rfl | ⟨rfl, hf17⟩
          · dsimp only [Option.toList, List.cons_append, List.nil_append, Nat.beq, gI_sI, gI_sL, gI_sA, gI_sM, gL_sI, gL_sL, gL_sA, gL_sM, aI_sI, aI_sL, aI_sA, aI_sM, aL_sI, aL_sL, aL_sA, aL_sM]
            try simp only [hR9.e2, hR9.e14, hR9.e15, hR9.e17, hR9.e18, hR9.e36, hR9.e42, hR9.e49, hR9.e62, hR9.a3, hR9.a6, hR9.a51, hR9.a19, hR9.a63, hR9.a64, hR9.hp, hR.e18, hR2.e49]
            refine ⟨fun h18 => absurd h18 (by decide), fun h18 => ⟨(by exact h18), ?_⟩⟩
            clear h18
            refine hB _ _ _ _ _ _ _ _ (fun m19 hm19 => ?_)
            dsimp only [jgo, jwp, jst, jct, rfd, BforOf, Nat.beq, lv_args, rlk, rs1, rs2, rdl, rky, rcd, rno, rsw, Value.category, List.filter, List.take, List.drop, List.reverse, List.reverseAux, List.cons_append, List.nil_append, Option.toList, Int.toNat, Int.reduceToNat, if_pos, if_neg, reduceIte, ↓reduceIte, Nat.reduceAdd, Nat.reduceEqDiff, Nat.reduceBEq, beq_self_eq_true, Bool.not_true, Bool.not_false, Bool.and_true, Bool.and_false, Bool.true_and, Bool.false_and, gI_sI, gI_sL, gI_sA, gI_sM, gL_sI, gL_sL, gL_sA, gL_sM, aI_sI, aI_sL, aI_sA, aI_sM, aL_sI, aL_sL, aL_sA, aL_sM, BforOf_0, BforOf_29, BforOf_38, BforOf_40, BforOf_47, BforOf_55, BforOf_57, BforOf_66, BforOf_73, BforOf_75, BforOf_84, BforOf_86, BforOf_109, BforOf_113, BforOf_114, BforOf_121, BforOf_128, BforOf_130, BforOf_151, BforOf_155, BforOf_156, BforOf_174, BforOf_176, BforOf_199, BforOf_206, BforOf_208, BforOf_217, BforOf_219, oi_0, oi_1, oi_20, oi_32, oi_33, oi_34, oi_35, oi_40, oi_41, oi_59, oi_6, Pj_declaration, Pu_emit, Pj_expression, Pj_exps, Pj_isSign, Pj_isTold, Pj_open, Pj_take, Pu_thing, Pj_want]; try dsimp only
            try simp only [hR9.e2, hR9.e14, hR9.e15, hR9.e17, hR9.e18, hR9.e36, hR9.e42, hR9.e49, hR9.e62, hR9.a3, hR9.a6, hR9.a51, hR9.a19, hR9.a63, hR9.a64, hR9.hp, hR.e18, hR2.e49]
            refine ⟨(by (repeat (first | exact hR9 | refine Rj.i ?_ rfl | refine Rj.a ?_ rfl | refine Rj.m ?_ | refine Rj.s ?_ (by decide) | refine Rj.o1 ?_ (by first | lia | (dsimp only [Nat.beq, gI_sI, gI_sL, gI_sA, gI_sM, gL_sI, gL_sL, gL_sA, gL_sM, aI_sI, aI_sL, aI_sA, aI_sM, aL_sI, aL_sL, aL_sA, aL_sM]; lia)) | refine Rj.o2 ?_ | refine Rj.f1 ?_ (by first | lia | (dsimp only [Nat.beq, gI_sI, gI_sL, gI_sA, gI_sM, gL_sI, gL_sL, gL_sA, gL_sM, aI_sI, aI_sL, aI_sA, aI_sM, aL_sI, aL_sL, aL_sA, aL_sM]; lia)) | refine Rj.f2 ?_ | refine Rj.fs ?_))), fun w20 τ20 w20' τ20' hq20 => ?_⟩
            obtain ⟨b20, rfl, rfl, hb20⟩ := hq20
            rcases hb20 with rfl | ⟨rfl, hR20, hk20⟩
            · dsimp only [Option.toList, List.cons_append, List.nil_append, Nat.beq, gI_sI, gI_sL, gI_sA, gI_sM, gL_sI, gL_sL, gL_sA, gL_sM, aI_sI, aI_sL, aI_sA, aI_sM, aL_sI, aL_sL, aL_sA, aL_sM]
              try simp only [hR9.e2, hR9.e14, hR9.e15, hR9.e17, hR9.e18, hR9.e36, hR9.e42, hR9.e49, hR9.e62, hR9.a3, hR9.a6, hR9.a51, hR9.a19, hR9.a63, hR9.a64, hR9.hp, hR.e18, hR2.e49]
              refine ⟨fun h21 => absurd h21 (by decide), fun h21 => ⟨(by exact h21), ?_⟩⟩
              clear h21
              refine hB _ _ _ _ _ _ _ _ (fun m22 hm22 => ?_)
              dsimp only [jgo, jwp, jst, jct, rfd, BforOf, Nat.beq, lv_args, rlk, rs1, rs2, rdl, rky, rcd, rno, rsw, Value.category, List.filter, List.take, List.drop, List.reverse, List.reverseAux, List.cons_append, List.nil_append, Option.toList, Int.toNat, Int.reduceToNat, if_pos, if_neg, reduceIte, ↓reduceIte, Nat.reduceAdd, Nat.reduceEqDiff, Nat.reduceBEq, beq_self_eq_true, Bool.not_true, Bool.not_false, Bool.and_true, Bool.and_false, Bool.true_and, Bool.false_and, gI_sI, gI_sL, gI_sA, gI_sM, gL_sI, gL_sL, gL_sA, gL_sM, aI_sI, aI_sL, aI_sA, aI_sM, aL_sI, aL_sL, aL_sA, aL_sM, BforOf_0, BforOf_29, BforOf_38, BforOf_40, BforOf_47, BforOf_55, BforOf_57, BforOf_66, BforOf_73, BforOf_75, BforOf_84, BforOf_86, BforOf_109, BforOf_113, BforOf_114, BforOf_121, BforOf_128, BforOf_130, BforOf_151, BforOf_155, BforOf_156, BforOf_174, BforOf_176, BforOf_199, BforOf_206, BforOf_208, BforOf_217, BforOf_219, oi_0, oi_1, oi_20, oi_32, oi_33, oi_34, oi_35, oi_40, oi_41, oi_59, oi_6, Pj_declaration, Pu_emit, Pj_expression, Pj_exps, Pj_isSign, Pj_isTold, Pj_open, Pj_take, Pu_thing, Pj_want]; try dsimp only
              try simp only [hR9.e2, hR9.e14, hR9.e15, hR9.e17, hR9.e18, hR9.e36, hR9.e42, hR9.e49, hR9.e62, hR9.a3, hR9.a6, hR9.a51, hR9.a19, hR9.a63, hR9.a64, hR9.hp, hR.e18, hR2.e49]
              unfold Qj_forOf
              try dsimp only
              exact ⟨_, rfl, rfl, Or.inl rfl⟩
            · dsimp only [Option.toList, List.cons_append, List.nil_append, Nat.beq, gI_sI, gI_sL, gI_sA, gI_sM, gL_sI, gL_sL, gL_sA, gL_sM, aI_sI, aI_sL, aI_sA, aI_sM, aL_sI, aL_sL, aL_sA, aL_sM]
              have hh20 := hk20.1 62 rfl
              have hg20 := hk20.1 49 rfl
              try dsimp only [Nat.beq, gI_sI, gI_sL, gI_sA, gI_sM, gL_sI, gL_sL, gL_sA, gL_sM, aI_sI, aI_sL, aI_sA, aI_sM, aL_sI, aL_sL, aL_sA, aL_sM] at hh20
              try dsimp only [Nat.beq, gI_sI, gI_sL, gI_sA, gI_sM, gL_sI, gL_sL, gL_sA, gL_sM, aI_sI, aI_sL, aI_sA, aI_sM, aL_sI, aL_sL, aL_sA, aL_sM] at hg20
              try simp only [hR20.e2, hR20.e14, hR20.e15, hR20.e17, hR20.e18, hR20.e36, hR20.e42, hR20.e49, hR20.e62, hR20.a3, hR20.a6, hR20.a51, hR20.a19, hR20.a63, hR20.a64, hR20.hp, hR.e18, hR2.e49]
              refine ⟨fun h23 => ⟨(by exact h23), ?_⟩, fun h23 => absurd h23 (by decide)⟩
              clear h23
              exact hW _ 75 [(0, .ref 1000), (1, .int (gI σ 14)), (2, .int (gI σ 18)), (3, .int (gI τ2 49))] [(0, .ref 1000), (1, .int (gI σ 14)), (2, .int (gI σ 18)), (3, .int (gI τ2 49))] _ _ _ _ _ _ (by simp [rdl, rky]) (by simp [rdl, rky]) (t75 _ _ _ (gI σ 14) (gI σ 18) (gI τ2 49) (by (repeat (first | exact hR20 | refine Rj.i ?_ rfl | refine Rj.a ?_ rfl | refine Rj.m ?_ | refine Rj.s ?_ (by decide) | refine Rj.o1 ?_ (by first | lia | (dsimp only [Nat.beq, gI_sI, gI_sL, gI_sA, gI_sM, gL_sI, gL_sL, gL_sA, gL_sM, aI_sI, aI_sL, aI_sA, aI_sM, aL_sI, aL_sL, aL_sA, aL_sM]; lia)) | refine Rj.o2 ?_ | refine Rj.f1 ?_ (by first | lia | (dsimp only [Nat.beq, gI_sI, gI_sL, gI_sA, gI_sM, gL_sI, gL_sL, gL_sA, gL_sM, aI_sI, aI_sL, aI_sA, aI_sM, aL_sI, aL_sL, aL_sA, aL_sM]; lia)) | refine Rj.f2 ?_ | refine Rj.fs ?_))) (by first | lia | (dsimp only [Nat.beq, gI_sI, gI_sL, gI_sA, gI_sM, gL_sI, gL_sL, gL_sA, gL_sM, aI_sI, aI_sL, aI_sA, aI_sM, aL_sI, aL_sL, aL_sA, aL_sM]; lia)))
          · dsimp only [Option.toList, List.cons_append, List.nil_append, Nat.beq, gI_sI, gI_sL, gI_sA, gI_sM, gL_sI, gL_sL, gL_sA, gL_sM, aI_sI, aI_sL, aI_sA, aI_sM, aL_sI, aL_sL, aL_sA, aL_sM]
            try dsimp only [Nat.beq, gI_sI, gI_sL, gI_sA, gI_sM, gL_sI, gL_sL, gL_sA, gL_sM, aI_sI, aI_sL, aI_sA, aI_sM, aL_sI, aL_sL, aL_sA, aL_sM] at hf17
            try simp only [hR9.e2, hR9.e14, hR9.e15, hR9.e17, hR9.e18, hR9.e36, hR9.e42, hR9.e49, hR9.e62, hR9.a3, hR9.a6, hR9.a51, hR9.a19, hR9.a63, hR9.a64, hR9.hp, hR.e18, hR2.e49]
            refine ⟨fun h24 => ⟨(by exact h24), ?_⟩, fun h24 => absurd h24 (by decide)⟩
            clear h24
            exact hW _ 75 [(0, .ref 1000), (1, .int (gI σ 14)), (2, .int (gI σ 18)), (3, .int (gI τ2 49))] [(0, .ref 1000), (1, .int (gI σ 14)), (2, .int (gI σ 18)), (3, .int (gI τ2 49))] _ _ _ _ _ _ (by simp [rdl, rky]) (by simp [rdl, rky]) (t75 _ _ _ (gI σ 14) (gI σ 18) (gI τ2 49) (by (repeat (first | exact hR9 | refine Rj.i ?_ rfl | refine Rj.a ?_ rfl | refine Rj.m ?_ | refine Rj.s ?_ (by decide) | refine Rj.o1 ?_ (by first | lia | (dsimp only [Nat.beq, gI_sI, gI_sL, gI_sA, gI_sM, gL_sI, gL_sL, gL_sA, gL_sM, aI_sI, aI_sL, aI_sA, aI_sM, aL_sI, aL_sL, aL_sA, aL_sM]; lia)) | refine Rj.o2 ?_ | refine Rj.f1 ?_ (by first | lia | (dsimp only [Nat.beq, gI_sI, gI_sL, gI_sA, gI_sM, gL_sI, gL_sL, gL_sA, gL_sM, aI_sI, aI_sL, aI_sA, aI_sM, aL_sI, aL_sL, aL_sA, aL_sM]; lia)) | refine Rj.f2 ?_ | refine Rj.fs ?_))) (by first | lia | (dsimp only [Nat.beq, gI_sI, gI_sL, gI_sA, gI_sM, gL_sI, gL_sL, gL_sA, gL_sM, aI_sI, aI_sL, aI_sA, aI_sM, aL_sI, aL_sL, aL_sA, aL_sM]; lia)))
        · dsimp only [Option.toList, List.cons_append, List.nil_append, Nat.beq, gI_sI, gI_sL, gI_sA, gI_sM, gL_sI, gL_sL, gL_sA, gL_sM, aI_sI, aI_sL, aI_sA, aI_sM, aL_sI, aL_sL, aL_sA, aL_sM]
          try dsimp only [Nat.beq, gI_sI, gI_sL, gI_sA, gI_sM, gL_sI, gL_sL, gL_sA, gL_sM, aI_sI, aI_sL, aI_sA, aI_sM, aL_sI, aL_sL, aL_sA, aL_sM] at hf14
          try simp only [hR9.e2, hR9.e14, hR9.e15, hR9.e17, hR9.e18, hR9.e36, hR9.e42, hR9.e49, hR9.e62, hR9.a3, hR9.a6, hR9.a51, hR9.a19, hR9.a63, hR9.a64, hR9.hp, hR.e18, hR2.e49]
          refine ⟨fun h25 => absurd h25 (by decide), fun h25 => ⟨(by exact h25), ?_⟩⟩
          clear h25
          refine hB _ _ _ _ _ _ _ _ (fun m26 hm26 => ?_)
          dsimp only [jgo, jwp, jst, jct, rfd, BforOf, Nat.beq, lv_args, rlk, rs1, rs2, rdl, rky, rcd, rno, rsw, Value.category, List.filter, List.take, List.drop, List.reverse, List.reverseAux, List.cons_append, List.nil_append, Option.toList, Int.toNat, Int.reduceToNat, if_pos, if_neg, reduceIte, ↓reduceIte, Nat.reduceAdd, Nat.reduceEqDiff, Nat.reduceBEq, beq_self_eq_true, Bool.not_true, Bool.not_false, Bool.and_true, Bool.and_false, Bool.true_and, Bool.false_and, gI_sI, gI_sL, gI_sA, gI_sM, gL_sI, gL_sL, gL_sA, gL_sM, aI_sI, aI_sL, aI_sA, aI_sM, aL_sI, aL_sL, aL_sA, aL_sM, BforOf_0, BforOf_29, BforOf_38, BforOf_40, BforOf_47, BforOf_55, BforOf_57, BforOf_66, BforOf_73, BforOf_75, BforOf_84, BforOf_86, BforOf_109, BforOf_113, BforOf_114, BforOf_121, BforOf_128, BforOf_130, BforOf_151, BforOf_155, BforOf_156, BforOf_174, BforOf_176, BforOf_199, BforOf_206, BforOf_208, BforOf_217, BforOf_219, oi_0, oi_1, oi_20, oi_32, oi_33, oi_34, oi_35, oi_40, oi_41, oi_59, oi_6, Pj_declaration, Pu_emit, Pj_expression, Pj_exps, Pj_isSign, Pj_isTold, Pj_open, Pj_take, Pu_thing, Pj_want]; try dsimp only
          try simp only [hR9.e2, hR9.e14, hR9.e15, hR9.e17, hR9.e18, hR9.e36, hR9.e42, hR9.e49, hR9.e62, hR9.a3, hR9.a6, hR9.a51, hR9.a19, hR9.a63, hR9.a64, hR9.hp, hR.e18, hR2.e49]
          refine ⟨(by (repeat (first | exact hR9 | refine Rj.i ?_ rfl | refine Rj.a ?_ rfl | refine Rj.m ?_ | refine Rj.s ?_ (by decide) | refine Rj.o1 ?_ (by first | lia | (dsimp only [Nat.beq, gI_sI, gI_sL, gI_sA, gI_sM, gL_sI, gL_sL, gL_sA, gL_sM, aI_sI, aI_sL, aI_sA, aI_sM, aL_sI, aL_sL, aL_sA, aL_sM]; lia)) | refine Rj.o2 ?_ | refine Rj.f1 ?_ (by first | lia | (dsimp only [Nat.beq, gI_sI, gI_sL, gI_sA, gI_sM, gL_sI, gL_sL, gL_sA, gL_sM, aI_sI, aI_sL, aI_sA, aI_sM, aL_sI, aL_sL, aL_sA, aL_sM]; lia)) | refine Rj.f2 ?_ | refine Rj.fs ?_))), fun w27 τ27 w27' τ27' hq27 => ?_⟩
          obtain ⟨b27, rfl, rfl, hb27⟩ := hq27
          rcases hb27 with rfl | ⟨rfl, hR27, hk27⟩
          · dsimp only [Option.toList, List.cons_append, List.nil_append, Nat.beq, gI_sI, gI_sL, gI_sA, gI_sM, gL_sI, gL_sL, gL_sA, gL_sM, aI_sI, aI_sL, aI_sA, aI_sM, aL_sI, aL_sL, aL_sA, aL_sM]
            try simp only [hR9.e2, hR9.e14, hR9.e15, hR9.e17, hR9.e18, hR9.e36, hR9.e42, hR9.e49, hR9.e62, hR9.a3, hR9.a6, hR9.a51, hR9.a19, hR9.a63, hR9.a64, hR9.hp, hR.e18, hR2.e49]
            refine ⟨fun h28 => absurd h28 (by decide), fun h28 => ⟨(by exact h28), ?_⟩⟩
            clear h28
            refine hB _ _ _ _ _ _ _ _ (fun m29 hm29 => ?_)
            dsimp only [jgo, jwp, jst, jct, rfd, BforOf, Nat.beq, lv_args, rlk, rs1, rs2, rdl, rky, rcd, rno, rsw, Value.category, List.filter, List.take, List.drop, List.reverse, List.reverseAux, List.cons_append, List.nil_append, Option.toList, Int.toNat, Int.reduceToNat, if_pos, if_neg, reduceIte, ↓reduceIte, Nat.reduceAdd, Nat.reduceEqDiff, Nat.reduceBEq, beq_self_eq_true, Bool.not_true, Bool.not_false, Bool.and_true, Bool.and_false, Bool.true_and, Bool.false_and, gI_sI, gI_sL, gI_sA, gI_sM, gL_sI, gL_sL, gL_sA, gL_sM, aI_sI, aI_sL, aI_sA, aI_sM, aL_sI, aL_sL, aL_sA, aL_sM, BforOf_0, BforOf_29, BforOf_38, BforOf_40, BforOf_47, BforOf_55, BforOf_57, BforOf_66, BforOf_73, BforOf_75, BforOf_84, BforOf_86, BforOf_109, BforOf_113, BforOf_114, BforOf_121, BforOf_128, BforOf_130, BforOf_151, BforOf_155, BforOf_156, BforOf_174, BforOf_176, BforOf_199, BforOf_206, BforOf_208, BforOf_217, BforOf_219, oi_0, oi_1, oi_20, oi_32, oi_33, oi_34, oi_35, oi_40, oi_41, oi_59, oi_6, Pj_declaration, Pu_emit, Pj_expression, Pj_exps, Pj_isSign, Pj_isTold, Pj_open, Pj_take, Pu_thing, Pj_want]; try dsimp only
            try simp only [hR9.e2, hR9.e14, hR9.e15, hR9.e17, hR9.e18, hR9.e36, hR9.e42, hR9.e49, hR9.e62, hR9.a3, hR9.a6, hR9.a51, hR9.a19, hR9.a63, hR9.a64, hR9.hp, hR.e18, hR2.e49]
            unfold Qj_forOf
            try dsimp only
            exact ⟨_, rfl, rfl, Or.inl rfl⟩
          · dsimp only [Option.toList, List.cons_append, List.nil_append, Nat.beq, gI_sI, gI_sL, gI_sA, gI_sM, gL_sI, gL_sL, gL_sA, gL_sM, aI_sI, aI_sL, aI_sA, aI_sM, aL_sI, aL_sL, aL_sA, aL_sM]
            have hh27 := hk27.1 62 rfl
            have hg27 := hk27.1 49 rfl
            try dsimp only [Nat.beq, gI_sI, gI_sL, gI_sA, gI_sM, gL_sI, gL_sL, gL_sA, gL_sM, aI_sI, aI_sL, aI_sA, aI_sM, aL_sI, aL_sL, aL_sA, aL_sM] at hh27
            try dsimp only [Nat.beq, gI_sI, gI_sL, gI_sA, gI_sM, gL_sI, gL_sL, gL_sA, gL_sM, aI_sI, aI_sL, aI_sA, aI_sM, aL_sI, aL_sL, aL_sA, aL_sM] at hg27
            try simp only [hR27.e2, hR27.e14, hR27.e15, hR27.e17, hR27.e18, hR27.e36, hR27.e42, hR27.e49, hR27.e62, hR27.a3, hR27.a6, hR27.a51, hR27.a19, hR27.a63, hR27.a64, hR27.hp, hR.e18, hR2.e49]
            refine ⟨fun h30 => ⟨(by exact h30), ?_⟩, fun h30 => absurd h30 (by decide)⟩
            clear h30
            exact hW _ 75 [(0, .ref 1000), (1, .int (gI σ 14)), (2, .int (gI σ 18)), (3, .int (gI τ2 49))] [(0, .ref 1000), (1, .int (gI σ 14)), (2, .int (gI σ 18)), (3, .int (gI τ2 49))] _ _ _ _ _ _ (by simp [rdl, rky]) (by simp [rdl, rky]) (t75 _ _ _ (gI σ 14) (gI σ 18) (gI τ2 49) (by (repeat (first | exact hR27 | refine Rj.i ?_ rfl | refine Rj.a ?_ rfl | refine Rj.m ?_ | refine Rj.s ?_ (by decide) | refine Rj.o1 ?_ (by first | lia | (dsimp only [Nat.beq, gI_sI, gI_sL, gI_sA, gI_sM, gL_sI, gL_sL, gL_sA, gL_sM, aI_sI, aI_sL, aI_sA, aI_sM, aL_sI, aL_sL, aL_sA, aL_sM]; lia)) | refine Rj.o2 ?_ | refine Rj.f1 ?_ (by first | lia | (dsimp only [Nat.beq, gI_sI, gI_sL, gI_sA, gI_sM, gL_sI, gL_sL, gL_sA, gL_sM, aI_sI, aI_sL, aI_sA, aI_sM, aL_sI, aL_sL, aL_sA, aL_sM]; lia)) | refine Rj.f2 ?_ | refine Rj.fs ?_))) (by first | lia | (dsimp only [Nat.beq, gI_sI, gI_sL, gI_sA, gI_sM, gL_sI, gL_sL, gL_sA, gL_sM, aI_sI, aI_sL, aI_sA, aI_sM, aL_sI, aL_sL, aL_sA, aL_sM]; lia)))
  next => exact hP.elim
