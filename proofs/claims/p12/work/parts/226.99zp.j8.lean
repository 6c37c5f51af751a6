def Pj_method : JPr := fun A1 A2 σ ρ => match A1, A2 with
  | [], [] => Rj 0 σ ρ
  | _, _ => False
def Qj_method : JQr := fun A1 A2 σ ρ w τ w' τ' => match A1, A2 with
  | [], [] => ∃ b : Int32, w = some (.int b) ∧ w' = some (.int b) ∧ (b = 0 ∨ (b = 1 ∧ Rj 0 τ τ'))
  | _, _ => False
set_option maxRecDepth 100000 in
set_option maxHeartbeats 4000000 in
theorem j_method : JMet 38 Pj_method Qj_method := by
  refine JMet.by Bmethod [(13, (fun A1 A2 σ ρ => Pu_cant A1 σ ∧ Pu_cant A2 ρ), (fun A1 A2 σ ρ w τ w' τ' => Qu_cant A1 σ w τ ∧ Qu_cant A2 ρ w' τ')), (14, Pj_isSign, Qj_isSign), (23, Pj_isType, Qj_isType), (15, Pj_isWord, Qj_isWord), (36, Pj_open, Qj_open), (39, Pj_param, Qj_param), (44, Pj_piece, Qj_piece), (17, Pj_take, Qj_take), (35, (fun A1 A2 σ ρ => Pu_thing A1 σ ∧ Pu_thing A2 ρ), (fun A1 A2 σ ρ w τ w' τ' => Qu_thing A1 σ w τ ∧ Qu_thing A2 ρ w' τ')), (18, Pj_want, Qj_want), (12, (fun A1 A2 σ ρ => Pu_wrong A1 σ ∧ Pu_wrong A2 ρ), (fun A1 A2 σ ρ w τ w' τ' => Qu_wrong A1 σ w τ ∧ Qu_wrong A2 ρ w' τ'))] rfl (jcc (JMet.u u_cant) (jcc j_isSign (jcc j_isType (jcc j_isWord (jcc j_open (jcc j_param (jcc j_piece (jcc j_take (jcc (JMet.u u_thing) (jcc j_want (jcc (JMet.u u_wrong) jc0))))))))))) ?_
  intro A1 A2 σ ρ hP K hB hW
  unfold Pj_method at hP
  split at hP
  next =>
    have hR := hP
    have t259 : ∀ (n : Nat) (X Y : RS), Rj 1 X Y → K n 259 [(0, .ref 1000)] [(0, .ref 1000)] [] [] X Y := by
      intro n
      induction n using Nat.strongRecOn with
      | ind n t259 =>
        intro X Y hR
        refine hB _ _ _ _ _ _ _ _ (fun m1 hm1 => ?_)
        dsimp only [jgo, jwp, jst, jct, rfd, Bmethod, Nat.beq, lv_args, rlk, rs1, rs2, rdl, rky, rcd, rno, rsw, Value.category, List.filter, List.take, List.drop, List.reverse, List.reverseAux, List.cons_append, List.nil_append, Option.toList, Int.toNat, Int.reduceToNat, if_pos, if_neg, reduceIte, ↓reduceIte, Nat.reduceAdd, Nat.reduceEqDiff, Nat.reduceBEq, beq_self_eq_true, Bool.not_true, Bool.not_false, Bool.and_true, Bool.and_false, Bool.true_and, Bool.false_and, gI_sI, gI_sL, gI_sA, gI_sM, gL_sI, gL_sL, gL_sA, gL_sM, aI_sI, aI_sL, aI_sA, aI_sM, aL_sI, aL_sL, aL_sA, aL_sM, Bmethod_0, Bmethod_8, Bmethod_19, Bmethod_24, Bmethod_41, Bmethod_43, Bmethod_56, Bmethod_61, Bmethod_70, Bmethod_80, Bmethod_141, Bmethod_150, Bmethod_152, Bmethod_161, Bmethod_165, Bmethod_166, Bmethod_168, Bmethod_173, Bmethod_182, Bmethod_184, Bmethod_197, Bmethod_204, Bmethod_206, Bmethod_215, Bmethod_217, Bmethod_246, Bmethod_257, Bmethod_259, Bmethod_266, Bmethod_273, Bmethod_275, oi_0, oi_1, oi_10, oi_123, oi_3, oi_40, oi_41, oi_44, oi_5, oi_m2, Pu_cant, Pj_isSign, Pj_isType, Pj_isWord, Pj_open, Pj_param, Pj_piece, Pj_take, Pu_thing, Pj_want, Pu_wrong]; try dsimp only
        try simp only [hR.e2, hR.e14, hR.e15, hR.e17, hR.e18, hR.e36, hR.e42, hR.e49, hR.e62, hR.a3, hR.a6, hR.a51, hR.a19, hR.a63, hR.a64, hR.hp]
        refine ⟨fun h2 => ⟨(by exact h2), ?_⟩, fun h2 => ⟨(by exact h2), ?_⟩⟩
        · refine hB _ _ _ _ _ _ _ _ (fun m3 hm3 => ?_)
          dsimp only [jgo, jwp, jst, jct, rfd, Bmethod, Nat.beq, lv_args, rlk, rs1, rs2, rdl, rky, rcd, rno, rsw, Value.category, List.filter, List.take, List.drop, List.reverse, List.reverseAux, List.cons_append, List.nil_append, Option.toList, Int.toNat, Int.reduceToNat, if_pos, if_neg, reduceIte, ↓reduceIte, Nat.reduceAdd, Nat.reduceEqDiff, Nat.reduceBEq, beq_self_eq_true, Bool.not_true, Bool.not_false, Bool.and_true, Bool.and_false, Bool.true_and, Bool.false_and, gI_sI, gI_sL, gI_sA, gI_sM, gL_sI, gL_sL, gL_sA, gL_sM, aI_sI, aI_sL, aI_sA, aI_sM, aL_sI, aL_sL, aL_sA, aL_sM, Bmethod_0, Bmethod_8, Bmethod_19, Bmethod_24, Bmethod_41, Bmethod_43, Bmethod_56, Bmethod_61, Bmethod_70, Bmethod_80, Bmethod_141, Bmethod_150, Bmethod_152, Bmethod_161, Bmethod_165, Bmethod_166, Bmethod_168, Bmethod_173, Bmethod_182, Bmethod_184, Bmethod_197, Bmethod_204, Bmethod_206, Bmethod_215, Bmethod_217, Bmethod_246, Bmethod_257, Bmethod_259, Bmethod_266, Bmethod_273, Bmethod_275, oi_0, oi_1, oi_10, oi_123, oi_3, oi_40, oi_41, oi_44, oi_5, oi_m2, Pu_cant, Pj_isSign, Pj_isType, Pj_isWord, Pj_open, Pj_param, Pj_piece, Pj_take, Pu_thing, Pj_want, Pu_wrong]; try dsimp only
          try simp only [hR.e2, hR.e14, hR.e15, hR.e17, hR.e18, hR.e36, hR.e42, hR.e49, hR.e62, hR.a3, hR.a6, hR.a51, hR.a19, hR.a63, hR.a64, hR.hp]
          unfold Qj_method
          try dsimp only
          exact ⟨_, rfl, rfl, Or.inr ⟨rfl, Rj.w (md := 1) (by (repeat (first | exact hR | refine Rj.i ?_ rfl | refine Rj.a ?_ rfl | refine Rj.m ?_ | refine Rj.s ?_ (by decide) | refine Rj.o1 ?_ (by first | lia | (dsimp only [Nat.beq, gI_sI, gI_sL, gI_sA, gI_sM, gL_sI, gL_sL, gL_sA, gL_sM, aI_sI, aI_sL, aI_sA, aI_sM, aL_sI, aL_sL, aL_sA, aL_sM]; lia)) | refine Rj.o2 ?_ | refine Rj.f1 ?_ (by first | lia | (dsimp only [Nat.beq, gI_sI, gI_sL, gI_sA, gI_sM, gL_sI, gL_sL, gL_sA, gL_sM, aI_sI, aI_sL, aI_sA, aI_sM, aL_sI, aL_sL, aL_sA, aL_sM]; lia)) | refine Rj.f2 ?_ | refine Rj.fs ?_)))⟩⟩
        · refine hB _ _ _ _ _ _ _ _ (fun m4 hm4 => ?_)
          dsimp only [jgo, jwp, jst, jct, rfd, Bmethod, Nat.beq, lv_args, rlk, rs1, rs2, rdl, rky, rcd, rno, rsw, Value.category, List.filter, List.take, List.drop, List.reverse, List.reverseAux, List.cons_append, List.nil_append, Option.toList, Int.toNat, Int.reduceToNat, if_pos, if_neg, reduceIte, ↓reduceIte, Nat.reduceAdd, Nat.reduceEqDiff, Nat.reduceBEq, beq_self_eq_true, Bool.not_true, Bool.not_false, Bool.and_true, Bool.and_false, Bool.true_and, Bool.false_and, gI_sI, gI_sL, gI_sA, gI_sM, gL_sI, gL_sL, gL_sA, gL_sM, aI_sI, aI_sL, aI_sA, aI_sM, aL_sI, aL_sL, aL_sA, aL_sM, Bmethod_0, Bmethod_8, Bmethod_19, Bmethod_24, Bmethod_41, Bmethod_43, Bmethod_56, Bmethod_61, Bmethod_70, Bmethod_80, Bmethod_141, Bmethod_150, Bmethod_152, Bmethod_161, Bmethod_165, Bmethod_166, Bmethod_168, Bmethod_173, Bmethod_182, Bmethod_184, Bmethod_197, Bmethod_204, Bmethod_206, Bmethod_215, Bmethod_217, Bmethod_246, Bmethod_257, Bmethod_259, Bmethod_266, Bmethod_273, Bmethod_275, oi_0, oi_1, oi_10, oi_123, oi_3, oi_40, oi_41, oi_44, oi_5, oi_m2, Pu_cant, Pj_isSign, Pj_isType, Pj_isWord, Pj_open, Pj_param, Pj_piece, Pj_take, Pu_thing, Pj_want, Pu_wrong]; try dsimp only
          try simp only [hR.e2, hR.e14, hR.e15, hR.e17, hR.e18, hR.e36, hR.e42, hR.e49, hR.e62, hR.a3, hR.a6, hR.a51, hR.a19, hR.a63, hR.a64, hR.hp]
          refine ⟨⟨(by (repeat (first | exact hR | refine Rj.i ?_ rfl | refine Rj.a ?_ rfl | refine Rj.m ?_ | refine Rj.s ?_ (by decide) | refine Rj.o1 ?_ (by first | lia | (dsimp only [Nat.beq, gI_sI, gI_sL, gI_sA, gI_sM, gL_sI, gL_sL, gL_sA, gL_sM, aI_sI, aI_sL, aI_sA, aI_sM, aL_sI, aL_sL, aL_sA, aL_sM]; lia)) | refine Rj.o2 ?_ | refine Rj.f1 ?_ (by first | lia | (dsimp only [Nat.beq, gI_sI, gI_sL, gI_sA, gI_sM, gL_sI, gL_sL, gL_sA, gL_sM, aI_sI, aI_sL, aI_sA, aI_sM, aL_sI, aL_sL, aL_sA, aL_sM]; lia)) | refine Rj.f2 ?_ | refine Rj.fs ?_))), by lia⟩, fun w5 τ5 w5' τ5' hq5 => ?_⟩
          obtain ⟨b5, rfl, rfl, hb5⟩ := hq5
          rcases hb5 with rfl | ⟨rfl, hR5⟩
          · dsimp only [Option.toList, List.cons_append, List.nil_append, Nat.beq, gI_sI, gI_sL, gI_sA, gI_sM, gL_sI, gL_sL, gL_sA, gL_sM, aI_sI, aI_sL, aI_sA, aI_sM, aL_sI, aL_sL, aL_sA, aL_sM]
            try simp only [hR.e2, hR.e14, hR.e15, hR.e17, hR.e18, hR.e36, hR.e42, hR.e49, hR.e62, hR.a3, hR.a6, hR.a51, hR.a19, hR.a63, hR.a64, hR.hp]
            refine ⟨fun h6 => absurd h6 (by decide), fun h6 => ⟨(by exact h6), ?_⟩⟩
            clear h6
            refine hB _ _ _ _ _ _ _ _ (fun m7 hm7 => ?_)
            dsimp only [jgo, jwp, jst, jct, rfd, Bmethod, Nat.beq, lv_args, rlk, rs1, rs2, rdl, rky, rcd, rno, rsw, Value.category, List.filter, List.take, List.drop, List.reverse, List.reverseAux, List.cons_append, List.nil_append, Option.toList, Int.toNat, Int.reduceToNat, if_pos, if_neg, reduceIte, ↓reduceIte, Nat.reduceAdd, Nat.reduceEqDiff, Nat.reduceBEq, beq_self_eq_true, Bool.not_true, Bool.not_false, Bool.and_true, Bool.and_false, Bool.true_and, Bool.false_and, gI_sI, gI_sL, gI_sA, gI_sM, gL_sI, gL_sL, gL_sA, gL_sM, aI_sI, aI_sL, aI_sA, aI_sM, aL_sI, aL_sL, aL_sA, aL_sM, Bmethod_0, Bmethod_8, Bmethod_19, Bmethod_24, Bmethod_41, Bmethod_43, Bmethod_56, Bmethod_61, Bmethod_70, Bmethod_80, Bmethod_141, Bmethod_150, Bmethod_152, Bmethod_161, Bmethod_165, Bmethod_166, Bmethod_168, Bmethod_173, Bmethod_182, Bmethod_184, Bmethod_197, Bmethod_204, Bmethod_206, Bmethod_215, Bmethod_217, Bmethod_246, Bmethod_257, Bmethod_259, Bmethod_266, Bmethod_273, Bmethod_275, oi_0, oi_1, oi_10, oi_123, oi_3, oi_40, oi_41, oi_44, oi_5, oi_m2, Pu_cant, Pj_isSign, Pj_isType, Pj_isWord, Pj_open, Pj_param, Pj_piece, Pj_take, Pu_thing, Pj_want, Pu_wrong]; try dsimp only
            try simp only [hR.e2, hR.e14, hR.e15, hR.e17, hR.e18, hR.e36, hR.e42, hR.e49, hR.e62, hR.a3, hR.a6, hR.a51, hR.a19, hR.a63, hR.a64, hR.hp]
            unfold Qj_method
            try dsimp only
            exact ⟨_, rfl, rfl, Or.inl rfl⟩
          · dsimp only [Option.toList, List.cons_append, List.nil_append, Nat.beq, gI_sI, gI_sL, gI_sA, gI_sM, gL_sI, gL_sL, gL_sA, gL_sM, aI_sI, aI_sL, aI_sA, aI_sM, aL_sI, aL_sL, aL_sA, aL_sM]
            try simp only [hR5.e2, hR5.e14, hR5.e15, hR5.e17, hR5.e18, hR5.e36, hR5.e42, hR5.e49, hR5.e62, hR5.a3, hR5.a6, hR5.a51, hR5.a19, hR5.a63, hR5.a64, hR5.hp]
            refine ⟨fun h8 => ⟨(by exact h8), ?_⟩, fun h8 => absurd h8 (by decide)⟩
            clear h8
            exact hW _ 259 [(0, .ref 1000)] [(0, .ref 1000)] _ _ _ _ _ _ (by simp [rdl, rky]) (by simp [rdl, rky]) (t259 _ (by omega) _ _ (by (repeat (first | exact hR5 | refine Rj.i ?_ rfl | refine Rj.a ?_ rfl | refine Rj.m ?_ | refine Rj.s ?_ (by decide) | refine Rj.o1 ?_ (by first | lia | (dsimp only [Nat.beq, gI_sI, gI_sL, gI_sA, gI_sM, gL_sI, gL_sL, gL_sA, gL_sM, aI_sI, aI_sL, aI_sA, aI_sM, aL_sI, aL_sL, aL_sA, aL_sM]; lia)) | refine Rj.o2 ?_ | refine Rj.f1 ?_ (by first | lia | (dsimp only [Nat.beq, gI_sI, gI_sL, gI_sA, gI_sM, gL_sI, gL_sL, gL_sA, gL_sM, aI_sI, aI_sL, aI_sA, aI_sM, aL_sI, aL_sL, aL_sA, aL_sM]; lia)) | refine Rj.f2 ?_ | refine Rj.fs ?_))))
    have t206 : ∀ (n : Nat) (X Y : RS) (m k : Int32), Rj 1 X Y → k.toNatClampNeg < (gI X 49).toNatClampNeg → K n 206 [(0, .ref 1000), (2, .int m), (3, .int k)] [(0, .ref 1000), (2, .int m), (3, .int k)] [] [] X Y := by
      intro n X Y m k hR hlk
      refine hB _ _ _ _ _ _ _ _ (fun m1 hm1 => ?_)
      dsimp only [jgo, jwp, jst, jct, rfd, Bmethod, Nat.beq, lv_args, rlk, rs1, rs2, rdl, rky, rcd, rno, rsw, Value.category, List.filter, List.take, List.drop, List.reverse, List.reverseAux, List.cons_append, List.nil_append, Option.toList, Int.toNat, Int.reduceToNat, if_pos, if_neg, reduceIte, ↓reduceIte, Nat.reduceAdd, Nat.reduceEqDiff, Nat.reduceBEq, beq_self_eq_true, Bool.not_true, Bool.not_false, Bool.and_true, Bool.and_false, Bool.true_and, Bool.false_and, gI_sI, gI_sL, gI_sA, gI_sM, gL_sI, gL_sL, gL_sA, gL_sM, aI_sI, aI_sL, aI_sA, aI_sM, aL_sI, aL_sL, aL_sA, aL_sM, Bmethod_0, Bmethod_8, Bmethod_19, Bmethod_24, Bmethod_41, Bmethod_43, Bmethod_56, Bmethod_61, Bmethod_70, Bmethod_80, Bmethod_141, Bmethod_150, Bmethod_152, Bmethod_161, Bmethod_165, Bmethod_166, Bmethod_168, Bmethod_173, Bmethod_182, Bmethod_184, Bmethod_197, Bmethod_204, Bmethod_206, Bmethod_215, Bmethod_217, Bmethod_246, Bmethod_257, Bmethod_259, Bmethod_266, Bmethod_273, Bmethod_275, oi_0, oi_1, oi_10, oi_123, oi_3, oi_40, oi_41, oi_44, oi_5, oi_m2, Pu_cant, Pj_isSign, Pj_isType, Pj_isWord, Pj_open, Pj_param, Pj_piece, Pj_take, Pu_thing, Pj_want, Pu_wrong]; try dsimp only
      try simp only [hR.e2, hR.e14, hR.e15, hR.e17, hR.e18, hR.e36, hR.e42, hR.e49, hR.e62, hR.a3, hR.a6, hR.a51, hR.a19, hR.a63, hR.a64, hR.hp]
      refine ⟨⟨(Rj.w (md := 1) (by (repeat (first | exact hR | refine Rj.i ?_ rfl | refine Rj.a ?_ rfl | refine Rj.m ?_ | refine Rj.s ?_ (by decide) | refine Rj.o1 ?_ (by first | lia | (dsimp only [Nat.beq, gI_sI, gI_sL, gI_sA, gI_sM, gL_sI, gL_sL, gL_sA, gL_sM, aI_sI, aI_sL, aI_sA, aI_sM, aL_sI, aL_sL, aL_sA, aL_sM]; lia)) | refine Rj.o2 ?_ | refine Rj.f1 ?_ (by first | lia | (dsimp only [Nat.beq, gI_sI, gI_sL, gI_sA, gI_sM, gL_sI, gL_sL, gL_sA, gL_sM, aI_sI, aI_sL, aI_sA, aI_sM, aL_sI, aL_sL, aL_sA, aL_sM]; lia)) | refine Rj.f2 ?_ | refine Rj.fs ?_)))), (by first | exact True.intro | rfl)⟩, fun w2 τ2 w2' τ2' hq2 => ?_⟩
      obtain ⟨b2, rfl, rfl, hb2⟩ := hq2
      rcases hb2 with rfl | ⟨rfl, hr2, hk2, hx2⟩
      · dsimp only [Option.toList, List.cons_append, List.nil_append, Nat.beq, gI_sI, gI_sL, gI_sA, gI_sM, gL_sI, gL_sL, gL_sA, gL_sM, aI_sI, aI_sL, aI_sA, aI_sM, aL_sI, aL_sL, aL_sA, aL_sM]
        try simp only [hR.e2, hR.e14, hR.e15, hR.e17, hR.e18, hR.e36, hR.e42, hR.e49, hR.e62, hR.a3, hR.a6, hR.a51, hR.a19, hR.a63, hR.a64, hR.hp]
        refine ⟨fun h3 => absurd h3 (by decide), fun h3 => ⟨(by exact h3), ?_⟩⟩
        clear h3
        refine hB _ _ _ _ _ _ _ _ (fun m4 hm4 => ?_)
        dsimp only [jgo, jwp, jst, jct, rfd, Bmethod, Nat.beq, lv_args, rlk, rs1, rs2, rdl, rky, rcd, rno, rsw, Value.category, List.filter, List.take, List.drop, List.reverse, List.reverseAux, List.cons_append, List.nil_append, Option.toList, Int.toNat, Int.reduceToNat, if_pos, if_neg, reduceIte, ↓reduceIte, Nat.reduceAdd, Nat.reduceEqDiff, Nat.reduceBEq, beq_self_eq_true, Bool.not_true, Bool.not_false, Bool.and_true, Bool.and_false, Bool.true_and, Bool.false_and, gI_sI, gI_sL, gI_sA, gI_sM, gL_sI, gL_sL, gL_sA, gL_sM, aI_sI, aI_sL, aI_sA, aI_sM, aL_sI, aL_sL, aL_sA, aL_sM, Bmethod_0, Bmethod_8, Bmethod_19, Bmethod_24, Bmethod_41, Bmethod_43, Bmethod_56, Bmethod_61, Bmethod_70, Bmethod_80, Bmethod_141, Bmethod_150, Bmethod_152, Bmethod_161, Bmethod_165, Bmethod_166, Bmethod_168, Bmethod_173, Bmethod_182, Bmethod_184, Bmethod_197, Bmethod_204, Bmethod_206, Bmethod_215, Bmethod_217, Bmethod_246, Bmethod_257, Bmethod_259, Bmethod_266, Bmethod_273, Bmethod_275, oi_0, oi_1, oi_10, oi_123, oi_3, oi_40, oi_41, oi_44, oi_5, oi_m2, Pu_cant, Pj_isSign, Pj_isType, Pj_isWord, Pj_open, Pj_param, Pj_piece, Pj_take, Pu_thing, Pj_want, Pu_wrong]; try dsimp only
        try simp only [hR.e2, hR.e14, hR.e15, hR.e17, hR.e18, hR.e36, hR.e42, hR.e49, hR.e62, hR.a3, hR.a6, hR.a51, hR.a19, hR.a63, hR.a64, hR.hp]
        unfold Qj_method
        try dsimp only
        exact ⟨_, rfl, rfl, Or.inl rfl⟩
      · dsimp only [Option.toList, List.cons_append, List.nil_append, Nat.beq, gI_sI, gI_sL, gI_sA, gI_sM, gL_sI, gL_sL, gL_sA, gL_sM, aI_sI, aI_sL, aI_sA, aI_sM, aL_sI, aL_sL, aL_sA, aL_sM]
        have hR2 : Rj 1 τ2 τ2' := hr2 _ (by (repeat (first | exact hR | refine Rj.i ?_ rfl | refine Rj.a ?_ rfl | refine Rj.m ?_ | refine Rj.s ?_ (by decide) | refine Rj.o1 ?_ (by first | lia | (dsimp only [Nat.beq, gI_sI, gI_sL, gI_sA, gI_sM, gL_sI, gL_sL, gL_sA, gL_sM, aI_sI, aI_sL, aI_sA, aI_sM, aL_sI, aL_sL, aL_sA, aL_sM]; lia)) | refine Rj.o2 ?_ | refine Rj.f1 ?_ (by first | lia | (dsimp only [Nat.beq, gI_sI, gI_sL, gI_sA, gI_sM, gL_sI, gL_sL, gL_sA, gL_sM, aI_sI, aI_sL, aI_sA, aI_sM, aL_sI, aL_sL, aL_sA, aL_sM]; lia)) | refine Rj.f2 ?_ | refine Rj.fs ?_)))
        have ht2 := hk2.2 3 rfl
        have hc2 := hk2.1 2 rfl
        try dsimp only [Nat.beq, gI_sI, gI_sL, gI_sA, gI_sM, gL_sI, gL_sL, gL_sA, gL_sM, aI_sI, aI_sL, aI_sA, aI_sM, aL_sI, aL_sL, aL_sA, aL_sM] at hx2
        try dsimp only [Nat.beq, gI_sI, gI_sL, gI_sA, gI_sM, gL_sI, gL_sL, gL_sA, gL_sM, aI_sI, aI_sL, aI_sA, aI_sM, aL_sI, aL_sL, aL_sA, aL_sM] at ht2
        try dsimp only [Nat.beq, gI_sI, gI_sL, gI_sA, gI_sM, gL_sI, gL_sL, gL_sA, gL_sM, aI_sI, aI_sL, aI_sA, aI_sM, aL_sI, aL_sL, aL_sA, aL_sM] at hc2
        have hh2 := hk2.1 62 rfl
        have hg2 := hk2.1 49 rfl
        try dsimp only [Nat.beq, gI_sI, gI_sL, gI_sA, gI_sM, gL_sI, gL_sL, gL_sA, gL_sM, aI_sI, aI_sL, aI_sA, aI_sM, aL_sI, aL_sL, aL_sA, aL_sM] at hh2
        try dsimp only [Nat.beq, gI_sI, gI_sL, gI_sA, gI_sM, gL_sI, gL_sL, gL_sA, gL_sM, aI_sI, aI_sL, aI_sA, aI_sM, aL_sI, aL_sL, aL_sA, aL_sM] at hg2
        have hz2 := congrFun ht2 (gI τ2 14).toNatClampNeg
        try simp only [hR2.e2, hR2.e14, hR2.e15, hR2.e17, hR2.e18, hR2.e36, hR2.e42, hR2.e49, hR2.e62, hR2.a3, hR2.a6, hR2.a51, hR2.a19, hR2.a63, hR2.a64, hR2.hp]
        refine ⟨fun h5 => ⟨(by exact h5), ?_⟩, fun h5 => absurd h5 (by decide)⟩
        clear h5
        refine hB _ _ _ _ _ _ _ _ (fun m6 hm6 => ?_)
        dsimp only [jgo, jwp, jst, jct, rfd, Bmethod, Nat.beq, lv_args, rlk, rs1, rs2, rdl, rky, rcd, rno, rsw, Value.category, List.filter, List.take, List.drop, List.reverse, List.reverseAux, List.cons_append, List.nil_append, Option.toList, Int.toNat, Int.reduceToNat, if_pos, if_neg, reduceIte, ↓reduceIte, Nat.reduceAdd, Nat.reduceEqDiff, Nat.reduceBEq, beq_self_eq_true, Bool.not_true, Bool.not_false, Bool.and_true, Bool.and_false, Bool.true_and, Bool.false_and, gI_sI, gI_sL, gI_sA, gI_sM, gL_sI, gL_sL, gL_sA, gL_sM, aI_sI, aI_sL, aI_sA, aI_sM, aL_sI, aL_sL, aL_sA, aL_sM, Bmethod_0, Bmethod_8, Bmethod_19, Bmethod_24, Bmethod_41, Bmethod_43, Bmethod_56, Bmethod_61, Bmethod_70, Bmethod_80, Bmethod_141, Bmethod_150, Bmethod_152, Bmethod_161, Bmethod_165, Bmethod_166, Bmethod_168, Bmethod_173, Bmethod_182, Bmethod_184, Bmethod_197, Bmethod_204, Bmethod_206, Bmethod_215, Bmethod_217, Bmethod_246, Bmethod_257, Bmethod_259, Bmethod_266, Bmethod_273, Bmethod_275, oi_0, oi_1, oi_10, oi_123, oi_3, oi_40, oi_41, oi_44, oi_5, oi_m2, Pu_cant, Pj_isSign, Pj_isType, Pj_isWord, Pj_open, Pj_param, Pj_piece, Pj_take, Pu_thing, Pj_want, Pu_wrong]; try dsimp only
        try simp only [hR2.e2, hR2.e14, hR2.e15, hR2.e17, hR2.e18, hR2.e36, hR2.e42, hR2.e49, hR2.e62, hR2.a3, hR2.a6, hR2.a51, hR2.a19, hR2.a63, hR2.a64, hR2.hp]
        intro p7 q7
        try simp only [hR2.e2, hR2.e14, hR2.e15, hR2.e17, hR2.e18, hR2.e36, hR2.e42, hR2.e49, hR2.e62, hR2.a3, hR2.a6, hR2.a51, hR2.a19, hR2.a63, hR2.a64, hR2.hp]
        refine ⟨⟨(Rj.w (md := 1) (by (repeat (first | exact hR2 | refine Rj.i ?_ rfl | refine Rj.a ?_ rfl | refine Rj.m ?_ | refine Rj.s ?_ (by decide) | refine Rj.o1 ?_ (by first | lia | (dsimp only [Nat.beq, gI_sI, gI_sL, gI_sA, gI_sM, gL_sI, gL_sL, gL_sA, gL_sM, aI_sI, aI_sL, aI_sA, aI_sM, aL_sI, aL_sL, aL_sA, aL_sM]; lia)) | refine Rj.o2 ?_ | refine Rj.f1 ?_ (by first | lia | (dsimp only [Nat.beq, gI_sI, gI_sL, gI_sA, gI_sM, gL_sI, gL_sL, gL_sA, gL_sM, aI_sI, aI_sL, aI_sA, aI_sM, aL_sI, aL_sL, aL_sA, aL_sM]; lia)) | refine Rj.f2 ?_ | refine Rj.fs ?_)))), (by first | exact True.intro | rfl)⟩, fun w8 τ8 w8' τ8' hq8 => ?_⟩
        obtain ⟨b8, rfl, rfl, hb8⟩ := hq8
        rcases hb8 with rfl | ⟨rfl, hr8, hk8, hx8⟩
        · dsimp only [Option.toList, List.cons_append, List.nil_append, Nat.beq, gI_sI, gI_sL, gI_sA, gI_sM, gL_sI, gL_sL, gL_sA, gL_sM, aI_sI, aI_sL, aI_sA, aI_sM, aL_sI, aL_sL, aL_sA, aL_sM]
          try simp only [hR2.e2, hR2.e14, hR2.e15, hR2.e17, hR2.e18, hR2.e36, hR2.e42, hR2.e49, hR2.e62, hR2.a3, hR2.a6, hR2.a51, hR2.a19, hR2.a63, hR2.a64, hR2.hp]
          refine ⟨fun h9 => ⟨(by exact h9), ?_⟩, fun h9 => absurd h9 (by decide)⟩
          clear h9
          refine hB _ _ _ _ _ _ _ _ (fun m10 hm10 => ?_)
          dsimp only [jgo, jwp, jst, jct, rfd, Bmethod, Nat.beq, lv_args, rlk, rs1, rs2, rdl, rky, rcd, rno, rsw, Value.category, List.filter, List.take, List.drop, List.reverse, List.reverseAux, List.cons_append, List.nil_append, Option.toList, Int.toNat, Int.reduceToNat, if_pos, if_neg, reduceIte, ↓reduceIte, Nat.reduceAdd, Nat.reduceEqDiff, Nat.reduceBEq, beq_self_eq_true, Bool.not_true, Bool.not_false, Bool.and_true, Bool.and_false, Bool.true_and, Bool.false_and, gI_sI, gI_sL, gI_sA, gI_sM, gL_sI, gL_sL, gL_sA, gL_sM, aI_sI, aI_sL, aI_sA, aI_sM, aL_sI, aL_sL, aL_sA, aL_sM, Bmethod_0, Bmethod_8, Bmethod_19, Bmethod_24, Bmethod_41, Bmethod_43, Bmethod_56, Bmethod_61, Bmethod_70, Bmethod_80, Bmethod_141, Bmethod_150, Bmethod_152, Bmethod_161, Bmethod_165, Bmethod_166, Bmethod_168, Bmethod_173, Bmethod_182, Bmethod_184, Bmethod_197, Bmethod_204, Bmethod_206, Bmethod_215, Bmethod_217, Bmethod_246, Bmethod_257, Bmethod_259, Bmethod_266, Bmethod_273, Bmethod_275, oi_0, oi_1, oi_10, oi_123, oi_3, oi_40, oi_41, oi_44, oi_5, oi_m2, Pu_cant, Pj_isSign, Pj_isType, Pj_isWord, Pj_open, Pj_param, Pj_piece, Pj_take, Pu_thing, Pj_want, Pu_wrong]; try dsimp only
          try simp only [hR2.e2, hR2.e14, hR2.e15, hR2.e17, hR2.e18, hR2.e36, hR2.e42, hR2.e49, hR2.e62, hR2.a3, hR2.a6, hR2.a51, hR2.a19, hR2.a63, hR2.a64, hR2.hp]
          unfold Qj_method
          try dsimp only
          exact ⟨_, rfl, rfl, Or.inl rfl⟩
        · dsimp only [Option.toList, List.cons_append, List.nil_append, Nat.beq, gI_sI, gI_sL, gI_sA, gI_sM, gL_sI, gL_sL, gL_sA, gL_sM, aI_sI, aI_sL, aI_sA, aI_sM, aL_sI, aL_sL, aL_sA, aL_sM]
          have hR8 : Rj 1 τ8 τ8' := hr8 _ (by (repeat (first | exact hR2 | refine Rj.i ?_ rfl | refine Rj.a ?_ rfl | refine Rj.m ?_ | refine Rj.s ?_ (by decide) | refine Rj.o1 ?_ (by first | lia | (dsimp only [Nat.beq, gI_sI, gI_sL, gI_sA, gI_sM, gL_sI, gL_sL, gL_sA, gL_sM, aI_sI, aI_sL, aI_sA, aI_sM, aL_sI, aL_sL, aL_sA, aL_sM]; lia)) | refine Rj.o2 ?_ | refine Rj.f1 ?_ (by first | lia | (dsimp only [Nat.beq, gI_sI, gI_sL, gI_sA, gI_sM, gL_sI, gL_sL, gL_sA, gL_sM, aI_sI, aI_sL, aI_sA, aI_sM, aL_sI, aL_sL, aL_sA, aL_sM]; lia)) | refine Rj.f2 ?_ | refine Rj.fs ?_)))
          have ht8 := hk8.2 3 rfl
          have hc8 := hk8.1 2 rfl
          try dsimp only [Nat.beq, gI_sI, gI_sL, gI_sA, gI_sM, gL_sI, gL_sL, gL_sA, gL_sM, aI_sI, aI_sL, aI_sA, aI_sM, aL_sI, aL_sL, aL_sA, aL_sM] at hx8
          try dsimp only [Nat.beq, gI_sI, gI_sL, gI_sA, gI_sM, gL_sI, gL_sL, gL_sA, gL_sM, aI_sI, aI_sL, aI_sA, aI_sM, aL_sI, aL_sL, aL_sA, aL_sM] at ht8
          try dsimp only [Nat.beq, gI_sI, gI_sL, gI_sA, gI_sM, gL_sI, gL_sL, gL_sA, gL_sM, aI_sI, aI_sL, aI_sA, aI_sM, aL_sI, aL_sL, aL_sA, aL_sM] at hc8
          have hh8 := hk8.1 62 rfl
          have hg8 := hk8.1 49 rfl
          try dsimp only [Nat.beq, gI_sI, gI_sL, gI_sA, gI_sM, gL_sI, gL_sL, gL_sA, gL_sM, aI_sI, aI_sL, aI_sA, aI_sM, aL_sI, aL_sL, aL_sA, aL_sM] at hh8
          try dsimp only [Nat.beq, gI_sI, gI_sL, gI_sA, gI_sM, gL_sI, gL_sL, gL_sA, gL_sM, aI_sI, aI_sL, aI_sA, aI_sM, aL_sI, aL_sL, aL_sA, aL_sM] at hg8
          have hz8 := congrFun ht8 (gI τ8 14).toNatClampNeg
          try simp only [hR8.e2, hR8.e14, hR8.e15, hR8.e17, hR8.e18, hR8.e36, hR8.e42, hR8.e49, hR8.e62, hR8.a3, hR8.a6, hR8.a51, hR8.a19, hR8.a63, hR8.a64, hR8.hp]
          refine ⟨fun h11 => absurd h11 (by decide), fun h11 => ⟨(by exact h11), ?_⟩⟩
          clear h11
          refine hB _ _ _ _ _ _ _ _ (fun m12 hm12 => ?_)
          dsimp only [jgo, jwp, jst, jct, rfd, Bmethod, Nat.beq, lv_args, rlk, rs1, rs2, rdl, rky, rcd, rno, rsw, Value.category, List.filter, List.take, List.drop, List.reverse, List.reverseAux, List.cons_append, List.nil_append, Option.toList, Int.toNat, Int.reduceToNat, if_pos, if_neg, reduceIte, ↓reduceIte, Nat.reduceAdd, Nat.reduceEqDiff, Nat.reduceBEq, beq_self_eq_true, Bool.not_true, Bool.not_false, Bool.and_true, Bool.and_false, Bool.true_and, Bool.false_and, gI_sI, gI_sL, gI_sA, gI_sM, gL_sI, gL_sL, gL_sA, gL_sM, aI_sI, aI_sL, aI_sA, aI_sM, aL_sI, aL_sL, aL_sA, aL_sM, Bmethod_0, Bmethod_8, Bmethod_19, Bmethod_24, Bmethod_41, Bmethod_43, Bmethod_56, Bmethod_61, Bmethod_70, Bmethod_80, Bmethod_141, Bmethod_150, Bmethod_152, Bmethod_161, Bmethod_165, Bmethod_166, Bmethod_168, Bmethod_173, Bmethod_182, Bmethod_184, Bmethod_197, Bmethod_204, Bmethod_206, Bmethod_215, Bmethod_217, Bmethod_246, Bmethod_257, Bmethod_259, Bmethod_266, Bmethod_273, Bmethod_275, oi_0, oi_1, oi_10, oi_123, oi_3, oi_40, oi_41, oi_44, oi_5, oi_m2, Pu_cant, Pj_isSign, Pj_isType, Pj_isWord, Pj_open, Pj_param, Pj_piece, Pj_take, Pu_thing, Pj_want, Pu_wrong]; try dsimp only
          try simp only [hR8.e2, hR8.e14, hR8.e15, hR8.e17, hR8.e18, hR8.e36, hR8.e42, hR8.e49, hR8.e62, hR8.a3, hR8.a6, hR8.a51, hR8.a19, hR8.a63, hR8.a64, hR8.hp]
          refine ⟨⟨(by (repeat (first | exact hR8 | refine Rj.i ?_ rfl | refine Rj.a ?_ rfl | refine Rj.m ?_ | refine Rj.s ?_ (by decide) | refine Rj.o1 ?_ (by first | lia | (dsimp only [Nat.beq, gI_sI, gI_sL, gI_sA, gI_sM, gL_sI, gL_sL, gL_sA, gL_sM, aI_sI, aI_sL, aI_sA, aI_sM, aL_sI, aL_sL, aL_sA, aL_sM]; lia)) | refine Rj.o2 ?_ | refine Rj.f1 ?_ (by first | lia | (dsimp only [Nat.beq, gI_sI, gI_sL, gI_sA, gI_sM, gL_sI, gL_sL, gL_sA, gL_sM, aI_sI, aI_sL, aI_sA, aI_sM, aL_sI, aL_sL, aL_sA, aL_sM]; lia)) | refine Rj.f2 ?_ | refine Rj.fs ?_))), (by first | exact True.intro | rfl), (by first | exact True.intro | rfl), by lia⟩, fun w13 τ13 w13' τ13' hq13 => ?_⟩
          obtain ⟨b13, rfl, rfl, hb13⟩ := hq13
          rcases hb13 with rfl | ⟨rfl, hR13⟩
          · dsimp only [Option.toList, List.cons_append, List.nil_append, Nat.beq, gI_sI, gI_sL, gI_sA, gI_sM, gL_sI, gL_sL, gL_sA, gL_sM, aI_sI, aI_sL, aI_sA, aI_sM, aL_sI, aL_sL, aL_sA, aL_sM]
            try simp only [hR8.e2, hR8.e14, hR8.e15, hR8.e17, hR8.e18, hR8.e36, hR8.e42, hR8.e49, hR8.e62, hR8.a3, hR8.a6, hR8.a51, hR8.a19, hR8.a63, hR8.a64, hR8.hp]
            refine ⟨fun h14 => absurd h14 (by decide), fun h14 => ⟨(by exact h14), ?_⟩⟩
            clear h14
            refine hB _ _ _ _ _ _ _ _ (fun m15 hm15 => ?_)
            dsimp only [jgo, jwp, jst, jct, rfd, Bmethod, Nat.beq, lv_args, rlk, rs1, rs2, rdl, rky, rcd, rno, rsw, Value.category, List.filter, List.take, List.drop, List.reverse, List.reverseAux, List.cons_append, List.nil_append, Option.toList, Int.toNat, Int.reduceToNat, if_pos, if_neg, reduceIte, ↓reduceIte, Nat.reduceAdd, Nat.reduceEqDiff, Nat.reduceBEq, beq_self_eq_true, Bool.not_true, Bool.not_false, Bool.and_true, Bool.and_false, Bool.true_and, Bool.false_and, gI_sI, gI_sL, gI_sA, gI_sM, gL_sI, gL_sL, gL_sA, gL_sM, aI_sI, aI_sL, aI_sA, aI_sM, aL_sI, aL_sL, aL_sA, aL_sM, Bmethod_0, Bmethod_8, Bmethod_19, Bmethod_24, Bmethod_41, Bmethod_43, Bmethod_56, Bmethod_61, Bmethod_70, Bmethod_80, Bmethod_141, Bmethod_150, Bmethod_152, Bmethod_161, Bmethod_165, Bmethod_166, Bmethod_168, Bmethod_173, Bmethod_182, Bmethod_184, Bmethod_197, Bmethod_204, Bmethod_206, Bmethod_215, Bmethod_217, Bmethod_246, Bmethod_257, Bmethod_259, Bmethod_266, Bmethod_273, Bmethod_275, oi_0, oi_1, oi_10, oi_123, oi_3, oi_40, oi_41, oi_44, oi_5, oi_m2, Pu_cant, Pj_isSign, Pj_isType, Pj_isWord, Pj_open, Pj_param, Pj_piece, Pj_take, Pu_thing, Pj_want, Pu_wrong]; try dsimp only
            try simp only [hR8.e2, hR8.e14, hR8.e15, hR8.e17, hR8.e18, hR8.e36, hR8.e42, hR8.e49, hR8.e62, hR8.a3, hR8.a6, hR8.a51, hR8.a19, hR8.a63, hR8.a64, hR8.hp]
            unfold Qj_method
            try dsimp only
            exact ⟨_, rfl, rfl, Or.inl rfl⟩
          · dsimp only [Option.toList, List.cons_append, List.nil_append, Nat.beq, gI_sI, gI_sL, gI_sA, gI_sM, gL_sI, gL_sL, gL_sA, gL_sM, aI_sI, aI_sL, aI_sA, aI_sM, aL_sI, aL_sL, aL_sA, aL_sM]
            try simp only [hR13.e2, hR13.e14, hR13.e15, hR13.e17, hR13.e18, hR13.e36, hR13.e42, hR13.e49, hR13.e62, hR13.a3, hR13.a6, hR13.a51, hR13.a19, hR13.a63, hR13.a64, hR13.hp]
            refine ⟨fun h16 => ⟨(by exact h16), ?_⟩, fun h16 => absurd h16 (by decide)⟩
            clear h16
            exact hW _ 259 [(0, .ref 1000)] [(0, .ref 1000)] _ _ _ _ _ _ (by simp [rdl, rky]) (by simp [rdl, rky]) (t259 _ _ _ (by (repeat (first | exact hR13 | refine Rj.i ?_ rfl | refine Rj.a ?_ rfl | refine Rj.m ?_ | refine Rj.s ?_ (by decide) | refine Rj.o1 ?_ (by first | lia | (dsimp only [Nat.beq, gI_sI, gI_sL, gI_sA, gI_sM, gL_sI, gL_sL, gL_sA, gL_sM, aI_sI, aI_sL, aI_sA, aI_sM, aL_sI, aL_sL, aL_sA, aL_sM]; lia)) | refine Rj.o2 ?_ | refine Rj.f1 ?_ (by first | lia | (dsimp only [Nat.beq, gI_sI, gI_sL, gI_sA, gI_sM, gL_sI, gL_sL, gL_sA, gL_sM, aI_sI, aI_sL, aI_sA, aI_sM, aL_sI, aL_sL, aL_sA, aL_sM]; lia)) | refine Rj.f2 ?_ | refine Rj.fs ?_))))
    have t168 : ∀ (n : Nat) (X Y : RS) (m k more : Int32), Rj 1 X Y → k.toNatClampNeg < (gI X 49).toNatClampNeg → aI Y 39 m.toNatClampNeg = aI X 39 m.toNatClampNeg → K n 168 [(0, .ref 1000), (2, .int m), (3, .int k), (4, .int more)] [(0, .ref 1000), (2, .int m), (3, .int k), (4, .int more)] [] [] X Y := by
      intro n
      induction n using Nat.strongRecOn with
      | ind n t168 =>
        intro X Y m k more hR hlk hm0
        refine hB _ _ _ _ _ _ _ _ (fun m1 hm1 => ?_)
        dsimp only [jgo, jwp, jst, jct, rfd, Bmethod, Nat.beq, lv_args, rlk, rs1, rs2, rdl, rky, rcd, rno, rsw, Value.category, List.filter, List.take, List.drop, List.reverse, List.reverseAux, List.cons_append, List.nil_append, Option.toList, Int.toNat, Int.reduceToNat, if_pos, if_neg, reduceIte, ↓reduceIte, Nat.reduceAdd, Nat.reduceEqDiff, Nat.reduceBEq, beq_self_eq_true, Bool.not_true, Bool.not_false, Bool.and_true, Bool.and_false, Bool.true_and, Bool.false_and, gI_sI, gI_sL, gI_sA, gI_sM, gL_sI, gL_sL, gL_sA, gL_sM, aI_sI, aI_sL, aI_sA, aI_sM, aL_sI, aL_sL, aL_sA, aL_sM, Bmethod_0, Bmethod_8, Bmethod_19, Bmethod_24, Bmethod_41, Bmethod_43, Bmethod_56, Bmethod_61, Bmethod_70, Bmethod_80, Bmethod_141, Bmethod_150, Bmethod_152, Bmethod_161, Bmethod_165, Bmethod_166, Bmethod_168, Bmethod_173, Bmethod_182, Bmethod_184, Bmethod_197, Bmethod_204, Bmethod_206, Bmethod_215, Bmethod_217, Bmethod_246, Bmethod_257, Bmethod_259, Bmethod_266, Bmethod_273, Bmethod_275, oi_0, oi_1, oi_10, oi_123, oi_3, oi_40, oi_41, oi_44, oi_5, oi_m2, Pu_cant, Pj_isSign, Pj_isType, Pj_isWord, Pj_open, Pj_param, Pj_piece, Pj_take, Pu_thing, Pj_want, Pu_wrong]; try dsimp only
        try simp only [hR.e2, hR.e14, hR.e15, hR.e17, hR.e18, hR.e36, hR.e42, hR.e49, hR.e62, hR.a3, hR.a6, hR.a51, hR.a19, hR.a63, hR.a64, hR.hp]
        refine ⟨fun h2 => ⟨(by exact h2), ?_⟩, fun h2 => ⟨(by exact h2), ?_⟩⟩
        · exact hW _ 206 [(0, .ref 1000), (2, .int m), (3, .int k)] [(0, .ref 1000), (2, .int m), (3, .int k)] _ _ _ _ _ _ (by simp [rdl, rky]) (by simp [rdl, rky]) (t206 _ _ _ m k (by (repeat (first | exact hR | refine Rj.i ?_ rfl | refine Rj.a ?_ rfl | refine Rj.m ?_ | refine Rj.s ?_ (by decide) | refine Rj.o1 ?_ (by first | lia | (dsimp only [Nat.beq, gI_sI, gI_sL, gI_sA, gI_sM, gL_sI, gL_sL, gL_sA, gL_sM, aI_sI, aI_sL, aI_sA, aI_sM, aL_sI, aL_sL, aL_sA, aL_sM]; lia)) | refine Rj.o2 ?_ | refine Rj.f1 ?_ (by first | lia | (dsimp only [Nat.beq, gI_sI, gI_sL, gI_sA, gI_sM, gL_sI, gL_sL, gL_sA, gL_sM, aI_sI, aI_sL, aI_sA, aI_sM, aL_sI, aL_sL, aL_sA, aL_sM]; lia)) | refine Rj.f2 ?_ | refine Rj.fs ?_))) (by lia))
        · refine hB _ _ _ _ _ _ _ _ (fun m3 hm3 => ?_)
          dsimp only [jgo, jwp, jst, jct, rfd, Bmethod, Nat.beq, lv_args, rlk, rs1, rs2, rdl, rky, rcd, rno, rsw, Value.category, List.filter, List.take, List.drop, List.reverse, List.reverseAux, List.cons_append, List.nil_append, Option.toList, Int.toNat, Int.reduceToNat, if_pos, if_neg, reduceIte, ↓reduceIte, Nat.reduceAdd, Nat.reduceEqDiff, Nat.reduceBEq, beq_self_eq_true, Bool.not_true, Bool.not_false, Bool.and_true, Bool.and_false, Bool.true_and, Bool.false_and, gI_sI, gI_sL, gI_sA, gI_sM, gL_sI, gL_sL, gL_sA, gL_sM, aI_sI, aI_sL, aI_sA, aI_sM, aL_sI, aL_sL, aL_sA, aL_sM, Bmethod_0, Bmethod_8, Bmethod_19, Bmethod_24, Bmethod_41, Bmethod_43, Bmethod_56, Bmethod_61, Bmethod_70, Bmethod_80, Bmethod_141, Bmethod_150, Bmethod_152, Bmethod_161, Bmethod_165, Bmethod_166, Bmethod_168, Bmethod_173, Bmethod_182, Bmethod_184, Bmethod_197, Bmethod_204, Bmethod_206, Bmethod_215, Bmethod_217, Bmethod_246, Bmethod_257, Bmethod_259, Bmethod_266, Bmethod_273, Bmethod_275, oi_0, oi_1, oi_10, oi_123, oi_3, oi_40, oi_41, oi_44, oi_5, oi_m2, Pu_cant, Pj_isSign, Pj_isType, Pj_isWord, Pj_open, Pj_param, Pj_piece, Pj_take, Pu_thing, Pj_want, Pu_wrong]; try dsimp only
          try simp only [hR.e2, hR.e14, hR.e15, hR.e17, hR.e18, hR.e36, hR.e42, hR.e49, hR.e62, hR.a3, hR.a6, hR.a51, hR.a19, hR.a63, hR.a64, hR.hp]
          refine ⟨⟨(by (repeat (first | exact hR | refine Rj.i ?_ rfl | refine Rj.a ?_ rfl | refine Rj.m ?_ | refine Rj.s ?_ (by decide) | refine Rj.o1 ?_ (by first | lia | (dsimp only [Nat.beq, gI_sI, gI_sL, gI_sA, gI_sM, gL_sI, gL_sL, gL_sA, gL_sM, aI_sI, aI_sL, aI_sA, aI_sM, aL_sI, aL_sL, aL_sA, aL_sM]; lia)) | refine Rj.o2 ?_ | refine Rj.f1 ?_ (by first | lia | (dsimp only [Nat.beq, gI_sI, gI_sL, gI_sA, gI_sM, gL_sI, gL_sL, gL_sA, gL_sM, aI_sI, aI_sL, aI_sA, aI_sM, aL_sI, aL_sL, aL_sA, aL_sM]; lia)) | refine Rj.f2 ?_ | refine Rj.fs ?_))), (by first | exact True.intro | rfl), hm0⟩, fun w4 τ4 w4' τ4' hq4 => ?_⟩
          obtain ⟨b4, rfl, rfl, hb4⟩ := hq4
          rcases hb4 with rfl | ⟨rfl, hR4, hg4, hm4⟩
          · dsimp only [Option.toList, List.cons_append, List.nil_append, Nat.beq, gI_sI, gI_sL, gI_sA, gI_sM, gL_sI, gL_sL, gL_sA, gL_sM, aI_sI, aI_sL, aI_sA, aI_sM, aL_sI, aL_sL, aL_sA, aL_sM]
            try simp only [hR.e2, hR.e14, hR.e15, hR.e17, hR.e18, hR.e36, hR.e42, hR.e49, hR.e62, hR.a3, hR.a6, hR.a51, hR.a19, hR.a63, hR.a64, hR.hp]
            refine ⟨fun h5 => absurd h5 (by decide), fun h5 => ⟨(by exact h5), ?_⟩⟩
            clear h5
            refine hB _ _ _ _ _ _ _ _ (fun m6 hm6 => ?_)
            dsimp only [jgo, jwp, jst, jct, rfd, Bmethod, Nat.beq, lv_args, rlk, rs1, rs2, rdl, rky, rcd, rno, rsw, Value.category, List.filter, List.take, List.drop, List.reverse, List.reverseAux, List.cons_append, List.nil_append, Option.toList, Int.toNat, Int.reduceToNat, if_pos, if_neg, reduceIte, ↓reduceIte, Nat.reduceAdd, Nat.reduceEqDiff, Nat.reduceBEq, beq_self_eq_true, Bool.not_true, Bool.not_false, Bool.and_true, Bool.and_false, Bool.true_and, Bool.false_and, gI_sI, gI_sL, gI_sA, gI_sM, gL_sI, gL_sL, gL_sA, gL_sM, aI_sI, aI_sL, aI_sA, aI_sM, aL_sI, aL_sL, aL_sA, aL_sM, Bmethod_0, Bmethod_8, Bmethod_19, Bmethod_24, Bmethod_41, Bmethod_43, Bmethod_56, Bmethod_61, Bmethod_70, Bmethod_80, Bmethod_141, Bmethod_150, Bmethod_152, Bmethod_161, Bmethod_165, Bmethod_166, Bmethod_168, Bmethod_173, Bmethod_182, Bmethod_184, Bmethod_197, Bmethod_204, Bmethod_206, Bmethod_215, Bmethod_217, Bmethod_246, Bmethod_257, Bmethod_259, Bmethod_266, Bmethod_273, Bmethod_275, oi_0, oi_1, oi_10, oi_123, oi_3, oi_40, oi_41, oi_44, oi_5, oi_m2, Pu_cant, Pj_isSign, Pj_isType, Pj_isWord, Pj_open, Pj_param, Pj_piece, Pj_take, Pu_thing, Pj_want, Pu_wrong]; try dsimp only
            try simp only [hR.e2, hR.e14, hR.e15, hR.e17, hR.e18, hR.e36, hR.e42, hR.e49, hR.e62, hR.a3, hR.a6, hR.a51, hR.a19, hR.a63, hR.a64, hR.hp]
            unfold Qj_method
            try dsimp only
            exact ⟨_, rfl, rfl, Or.inl rfl⟩
          · dsimp only [Option.toList, List.cons_append, List.nil_append, Nat.beq, gI_sI, gI_sL, gI_sA, gI_sM, gL_sI, gL_sL, gL_sA, gL_sM, aI_sI, aI_sL, aI_sA, aI_sM, aL_sI, aL_sL, aL_sA, aL_sM]
            try dsimp only [Nat.beq, gI_sI, gI_sL, gI_sA, gI_sM, gL_sI, gL_sL, gL_sA, gL_sM, aI_sI, aI_sL, aI_sA, aI_sM, aL_sI, aL_sL, aL_sA, aL_sM] at hg4
            try simp only [hR4.e2, hR4.e14, hR4.e15, hR4.e17, hR4.e18, hR4.e36, hR4.e42, hR4.e49, hR4.e62, hR4.a3, hR4.a6, hR4.a51, hR4.a19, hR4.a63, hR4.a64, hR4.hp, hm4]
            refine ⟨fun h7 => ⟨(by exact h7), ?_⟩, fun h7 => absurd h7 (by decide)⟩
            clear h7
            refine hB _ _ _ _ _ _ _ _ (fun m8 hm8 => ?_)
            dsimp only [jgo, jwp, jst, jct, rfd, Bmethod, Nat.beq, lv_args, rlk, rs1, rs2, rdl, rky, rcd, rno, rsw, Value.category, List.filter, List.take, List.drop, List.reverse, List.reverseAux, List.cons_append, List.nil_append, Option.toList, Int.toNat, Int.reduceToNat, if_pos, if_neg, reduceIte, ↓reduceIte, Nat.reduceAdd, Nat.reduceEqDiff, Nat.reduceBEq, beq_self_eq_true, Bool.not_true, Bool.not_false, Bool.and_true, Bool.and_false, Bool.true_and, Bool.false_and, gI_sI, gI_sL, gI_sA, gI_sM, gL_sI, gL_sL, gL_sA, gL_sM, aI_sI, aI_sL, aI_sA, aI_sM, aL_sI, aL_sL, aL_sA, aL_sM, Bmethod_0, Bmethod_8, Bmethod_19, Bmethod_24, Bmethod_41, Bmethod_43, Bmethod_56, Bmethod_61, Bmethod_70, Bmethod_80, Bmethod_141, Bmethod_150, Bmethod_152, Bmethod_161, Bmethod_165, Bmethod_166, Bmethod_168, Bmethod_173, Bmethod_182, Bmethod_184, Bmethod_197, Bmethod_204, Bmethod_206, Bmethod_215, Bmethod_217, Bmethod_246, Bmethod_257, Bmethod_259, Bmethod_266, Bmethod_273, Bmethod_275, oi_0, oi_1, oi_10, oi_123, oi_3, oi_40, oi_41, oi_44, oi_5, oi_m2, Pu_cant, Pj_isSign, Pj_isType, Pj_isWord, Pj_open, Pj_param, Pj_piece, Pj_take, Pu_thing, Pj_want, Pu_wrong]; try dsimp only
            try simp only [hR4.e2, hR4.e14, hR4.e15, hR4.e17, hR4.e18, hR4.e36, hR4.e42, hR4.e49, hR4.e62, hR4.a3, hR4.a6, hR4.a51, hR4.a19, hR4.a63, hR4.a64, hR4.hp, hm4]
            refine ⟨⟨(Rj.w (md := 1) (by (repeat (first | exact hR4 | refine Rj.i ?_ rfl | refine Rj.a ?_ rfl | refine Rj.m ?_ | refine Rj.s ?_ (by decide) | refine Rj.o1 ?_ (by first | lia | (dsimp only [Nat.beq, gI_sI, gI_sL, gI_sA, gI_sM, gL_sI, gL_sL, gL_sA, gL_sM, aI_sI, aI_sL, aI_sA, aI_sM, aL_sI, aL_sL, aL_sA, aL_sM]; lia)) | refine Rj.o2 ?_ | refine Rj.f1 ?_ (by first | lia | (dsimp only [Nat.beq, gI_sI, gI_sL, gI_sA, gI_sM, gL_sI, gL_sL, gL_sA, gL_sM, aI_sI, aI_sL, aI_sA, aI_sM, aL_sI, aL_sL, aL_sA, aL_sM]; lia)) | refine Rj.f2 ?_ | refine Rj.fs ?_)))), (by first | exact True.intro | rfl)⟩, fun w9 τ9 w9' τ9' hq9 => ?_⟩
            obtain ⟨b9, rfl, rfl, rfl, rfl, hb9⟩ := hq9
            rcases hb9 with rfl | ⟨rfl, hf9⟩
            · dsimp only [Option.toList, List.cons_append, List.nil_append, Nat.beq, gI_sI, gI_sL, gI_sA, gI_sM, gL_sI, gL_sL, gL_sA, gL_sM, aI_sI, aI_sL, aI_sA, aI_sM, aL_sI, aL_sL, aL_sA, aL_sM]
              try simp only [hR4.e2, hR4.e14, hR4.e15, hR4.e17, hR4.e18, hR4.e36, hR4.e42, hR4.e49, hR4.e62, hR4.a3, hR4.a6, hR4.a51, hR4.a19, hR4.a63, hR4.a64, hR4.hp, hm4]
              refine ⟨fun h10 => ⟨(by exact h10), ?_⟩, fun h10 => absurd h10 (by decide)⟩
              clear h10
              exact hW _ 168 [(0, .ref 1000), (2, .int m), (3, .int k), (4, .int 0)] [(0, .ref 1000), (2, .int m), (3, .int k), (4, .int 0)] _ _ _ _ _ _ (by simp [rdl, rky]) (by simp [rdl, rky]) (t168 _ (by omega) _ _ m k 0 (by (repeat (first | exact hR4 | refine Rj.i ?_ rfl | refine Rj.a ?_ rfl | refine Rj.m ?_ | refine Rj.s ?_ (by decide) | refine Rj.o1 ?_ (by first | lia | (dsimp only [Nat.beq, gI_sI, gI_sL, gI_sA, gI_sM, gL_sI, gL_sL, gL_sA, gL_sM, aI_sI, aI_sL, aI_sA, aI_sM, aL_sI, aL_sL, aL_sA, aL_sM]; lia)) | refine Rj.o2 ?_ | refine Rj.f1 ?_ (by first | lia | (dsimp only [Nat.beq, gI_sI, gI_sL, gI_sA, gI_sM, gL_sI, gL_sL, gL_sA, gL_sM, aI_sI, aI_sL, aI_sA, aI_sM, aL_sI, aL_sL, aL_sA, aL_sM]; lia)) | refine Rj.f2 ?_ | refine Rj.fs ?_))) (by lia) hm4)
            · dsimp only [Option.toList, List.cons_append, List.nil_append, Nat.beq, gI_sI, gI_sL, gI_sA, gI_sM, gL_sI, gL_sL, gL_sA, gL_sM, aI_sI, aI_sL, aI_sA, aI_sM, aL_sI, aL_sL, aL_sA, aL_sM]
              try dsimp only [Nat.beq, gI_sI, gI_sL, gI_sA, gI_sM, gL_sI, gL_sL, gL_sA, gL_sM, aI_sI, aI_sL, aI_sA, aI_sM, aL_sI, aL_sL, aL_sA, aL_sM] at hf9
              try simp only [hR4.e2, hR4.e14, hR4.e15, hR4.e17, hR4.e18, hR4.e36, hR4.e42, hR4.e49, hR4.e62, hR4.a3, hR4.a6, hR4.a51, hR4.a19, hR4.a63, hR4.a64, hR4.hp, hm4]
              refine ⟨fun h11 => absurd h11 (by decide), fun h11 => ⟨(by exact h11), ?_⟩⟩
              clear h11
              refine hB _ _ _ _ _ _ _ _ (fun m12 hm12 => ?_)
              dsimp only [jgo, jwp, jst, jct, rfd, Bmethod, Nat.beq, lv_args, rlk, rs1, rs2, rdl, rky, rcd, rno, rsw, Value.category, List.filter, List.take, List.drop, List.reverse, List.reverseAux, List.cons_append, List.nil_append, Option.toList, Int.toNat, Int.reduceToNat, if_pos, if_neg, reduceIte, ↓reduceIte, Nat.reduceAdd, Nat.reduceEqDiff, Nat.reduceBEq, beq_self_eq_true, Bool.not_true, Bool.not_false, Bool.and_true, Bool.and_false, Bool.true_and, Bool.false_and, gI_sI, gI_sL, gI_sA, gI_sM, gL_sI, gL_sL, gL_sA, gL_sM, aI_sI, aI_sL, aI_sA, aI_sM, aL_sI, aL_sL, aL_sA, aL_sM, Bmethod_0, Bmethod_8, Bmethod_19, Bmethod_24, Bmethod_41, Bmethod_43, Bmethod_56, Bmethod_61, Bmethod_70, Bmethod_80, Bmethod_141, Bmethod_150, Bmethod_152, Bmethod_161, Bmethod_165, Bmethod_166, Bmethod_168, Bmethod_173, Bmethod_182, Bmethod_184, Bmethod_197, Bmethod_204, Bmethod_206, Bmethod_215, Bmethod_217, Bmethod_246, Bmethod_257, Bmethod_259, Bmethod_266, Bmethod_273, Bmethod_275, oi_0, oi_1, oi_10, oi_123, oi_3, oi_40, oi_41, oi_44, oi_5, oi_m2, Pu_cant, Pj_isSign, Pj_isType, Pj_isWord, Pj_open, Pj_param, Pj_piece, Pj_take, Pu_thing, Pj_want, Pu_wrong]; try dsimp only
              try simp only [hR4.e2, hR4.e14, hR4.e15, hR4.e17, hR4.e18, hR4.e36, hR4.e42, hR4.e49, hR4.e62, hR4.a3, hR4.a6, hR4.a51, hR4.a19, hR4.a63, hR4.a64, hR4.hp, hm4]
              refine ⟨⟨(Rj.w (md := 1) (by (repeat (first | exact hR4 | refine Rj.i ?_ rfl | refine Rj.a ?_ rfl | refine Rj.m ?_ | refine Rj.s ?_ (by decide) | refine Rj.o1 ?_ (by first | lia | (dsimp only [Nat.beq, gI_sI, gI_sL, gI_sA, gI_sM, gL_sI, gL_sL, gL_sA, gL_sM, aI_sI, aI_sL, aI_sA, aI_sM, aL_sI, aL_sL, aL_sA, aL_sM]; lia)) | refine Rj.o2 ?_ | refine Rj.f1 ?_ (by first | lia | (dsimp only [Nat.beq, gI_sI, gI_sL, gI_sA, gI_sM, gL_sI, gL_sL, gL_sA, gL_sM, aI_sI, aI_sL, aI_sA, aI_sM, aL_sI, aL_sL, aL_sA, aL_sM]; lia)) | refine Rj.f2 ?_ | refine Rj.fs ?_)))), by lia, by lia⟩, fun w13 τ13 w13' τ13' hq13 => ?_⟩
              obtain ⟨b13, rfl, rfl, hb13⟩ := hq13
              rcases hb13 with rfl | ⟨rfl, hr13, hk13, hx13⟩
              · dsimp only [Option.toList, List.cons_append, List.nil_append, Nat.beq, gI_sI, gI_sL, gI_sA, gI_sM, gL_sI, gL_sL, gL_sA, gL_sM, aI_sI, aI_sL, aI_sA, aI_sM, aL_sI, aL_sL, aL_sA, aL_sM]
                try simp only [hR4.e2, hR4.e14, hR4.e15, hR4.e17, hR4.e18, hR4.e36, hR4.e42, hR4.e49, hR4.e62, hR4.a3, hR4.a6, hR4.a51, hR4.a19, hR4.a63, hR4.a64, hR4.hp, hm4]
                refine ⟨fun h14 => absurd h14 (by decide), fun h14 => ⟨(by exact h14), ?_⟩⟩
                clear h14
                refine hB _ _ _ _ _ _ _ _ (fun m15 hm15 => ?_)
                dsimp only [jgo, jwp, jst, jct, rfd, Bmethod, Nat.beq, lv_args, rlk, rs1, rs2, rdl, rky, rcd, rno, rsw, Value.category, List.filter, List.take, List.drop, List.reverse, List.reverseAux, List.cons_append, List.nil_append, Option.toList, Int.toNat, Int.reduceToNat, if_pos, if_neg, reduceIte, ↓reduceIte, Nat.reduceAdd, Nat.reduceEqDiff, Nat.reduceBEq, beq_self_eq_true, Bool.not_true, Bool.not_false, Bool.and_true, Bool.and_false, Bool.true_and, Bool.false_and, gI_sI, gI_sL, gI_sA, gI_sM, gL_sI, gL_sL, gL_sA, gL_sM, aI_sI, aI_sL, aI_sA, aI_sM, aL_sI, aL_sL, aL_sA, aL_sM, Bmethod_0, Bmethod_8, Bmethod_19, Bmethod_24, Bmethod_41, Bmethod_43, Bmethod_56, Bmethod_61, Bmethod_70, Bmethod_80, Bmethod_141, Bmethod_150, Bmethod_152, Bmethod_161, Bmethod_165, Bmethod_166, Bmethod_168, Bmethod_173, Bmethod_182, Bmethod_184, Bmethod_197, Bmethod_204, Bmethod_206, Bmethod_215, Bmethod_217, Bmethod_246, Bmethod_257, Bmethod_259, Bmethod_266, Bmethod_273, Bmethod_275, oi_0, oi_1, oi_10, oi_123, oi_3, oi_40, oi_41, oi_44, oi_5, oi_m2, Pu_cant, Pj_isSign, Pj_isType, Pj_isWord, Pj_open, Pj_param, Pj_piece, Pj_take, Pu_thing, Pj_want, Pu_wrong]; try dsimp only
                try simp only [hR4.e2, hR4.e14, hR4.e15, hR4.e17, hR4.e18, hR4.e36, hR4.e42, hR4.e49, hR4.e62, hR4.a3, hR4.a6, hR4.a51, hR4.a19, hR4.a63, hR4.a64, hR4.hp, hm4]
                unfold Qj_method
                try dsimp only
                exact ⟨_, rfl, rfl, Or.inl rfl⟩
              · dsimp only [Option.toList, List.cons_append, List.nil_append, Nat.beq, gI_sI, gI_sL, gI_sA, gI_sM, gL_sI, gL_sL, gL_sA, gL_sM, aI_sI, aI_sL, aI_sA, aI_sM, aL_sI, aL_sL, aL_sA, aL_sM]
                have hR13 : Rj 1 τ13 τ13' := hr13 _ (by (repeat (first | exact hR4 | refine Rj.i ?_ rfl | refine Rj.a ?_ rfl | refine Rj.m ?_ | refine Rj.s ?_ (by decide) | refine Rj.o1 ?_ (by first | lia | (dsimp only [Nat.beq, gI_sI, gI_sL, gI_sA, gI_sM, gL_sI, gL_sL, gL_sA, gL_sM, aI_sI, aI_sL, aI_sA, aI_sM, aL_sI, aL_sL, aL_sA, aL_sM]; lia)) | refine Rj.o2 ?_ | refine Rj.f1 ?_ (by first | lia | (dsimp only [Nat.beq, gI_sI, gI_sL, gI_sA, gI_sM, gL_sI, gL_sL, gL_sA, gL_sM, aI_sI, aI_sL, aI_sA, aI_sM, aL_sI, aL_sL, aL_sA, aL_sM]; lia)) | refine Rj.f2 ?_ | refine Rj.fs ?_)))
                have ht13 := hk13.2 3 rfl
                have hc13 := hk13.1 2 rfl
                try dsimp only [Nat.beq, gI_sI, gI_sL, gI_sA, gI_sM, gL_sI, gL_sL, gL_sA, gL_sM, aI_sI, aI_sL, aI_sA, aI_sM, aL_sI, aL_sL, aL_sA, aL_sM] at hx13
                try dsimp only [Nat.beq, gI_sI, gI_sL, gI_sA, gI_sM, gL_sI, gL_sL, gL_sA, gL_sM, aI_sI, aI_sL, aI_sA, aI_sM, aL_sI, aL_sL, aL_sA, aL_sM] at ht13
                try dsimp only [Nat.beq, gI_sI, gI_sL, gI_sA, gI_sM, gL_sI, gL_sL, gL_sA, gL_sM, aI_sI, aI_sL, aI_sA, aI_sM, aL_sI, aL_sL, aL_sA, aL_sM] at hc13
                have hh13 := hk13.1 62 rfl
                have hg13 := hk13.1 49 rfl
                try dsimp only [Nat.beq, gI_sI, gI_sL, gI_sA, gI_sM, gL_sI, gL_sL, gL_sA, gL_sM, aI_sI, aI_sL, aI_sA, aI_sM, aL_sI, aL_sL, aL_sA, aL_sM] at hh13
                try dsimp only [Nat.beq, gI_sI, gI_sL, gI_sA, gI_sM, gL_sI, gL_sL, gL_sA, gL_sM, aI_sI, aI_sL, aI_sA, aI_sM, aL_sI, aL_sL, aL_sA, aL_sM] at hg13
                have hz13 := congrFun ht13 (gI τ13 14).toNatClampNeg
                have hg13 : gI τ13 36 = _ ∧ gI τ13 49 = _ := ⟨hk13.1 36 rfl, hk13.1 49 rfl⟩
                try dsimp only [Nat.beq, gI_sI, gI_sL, gI_sA, gI_sM, gL_sI, gL_sL, gL_sA, gL_sM, aI_sI, aI_sL, aI_sA, aI_sM, aL_sI, aL_sL, aL_sA, aL_sM] at hg13
                have hm13 : aI τ13' 39 m.toNatClampNeg = aI τ13 39 m.toNatClampNeg := (congrFun hx13.2.1 _).trans (Eq.trans hm4 (congrFun (hk13.2 39 rfl) _).symm)
                try simp only [hR13.e2, hR13.e14, hR13.e15, hR13.e17, hR13.e18, hR13.e36, hR13.e42, hR13.e49, hR13.e62, hR13.a3, hR13.a6, hR13.a51, hR13.a19, hR13.a63, hR13.a64, hR13.hp, hm4, hm13]
                refine ⟨fun h16 => ⟨(by exact h16), ?_⟩, fun h16 => absurd h16 (by decide)⟩
                clear h16
                exact hW _ 168 [(0, .ref 1000), (2, .int m), (3, .int k), (4, .int 1)] [(0, .ref 1000), (2, .int m), (3, .int k), (4, .int 1)] _ _ _ _ _ _ (by simp [rdl, rky]) (by simp [rdl, rky]) (t168 _ (by omega) _ _ m k 1 (by (repeat (first | exact hR13 | refine Rj.i ?_ rfl | refine Rj.a ?_ rfl | refine Rj.m ?_ | refine Rj.s ?_ (by decide) | refine Rj.o1 ?_ (by first | lia | (dsimp only [Nat.beq, gI_sI, gI_sL, gI_sA, gI_sM, gL_sI, gL_sL, gL_sA, gL_sM, aI_sI, aI_sL, aI_sA, aI_sM, aL_sI, aL_sL, aL_sA, aL_sM]; lia)) | refine Rj.o2 ?_ | refine Rj.f1 ?_ (by first | lia | (dsimp only [Nat.beq, gI_sI, gI_sL, gI_sA, gI_sM, gL_sI, gL_sL, gL_sA, gL_sM, aI_sI, aI_sL, aI_sA, aI_sM, aL_sI, aL_sL, aL_sA, aL_sM]; lia)) | refine Rj.f2 ?_ | refine Rj.fs ?_))) (by lia) hm13)
    have t80 : ∀ (n : Nat) (X Y : RS) (ty : Int32), Rj 0 X Y → aI X 3 (gI X 14).toNatClampNeg = 1 → K n 80 [(0, .ref 1000), (1, .int ty)] [(0, .ref 1000), (1, .int ty)] [] [] X Y := by
      intro n X Y ty hR htk
      refine hB _ _ _ _ _ _ _ _ (fun m1 hm1 => ?_)
      dsimp only [jgo, jwp, jst, jct, rfd, Bmethod, Nat.beq, lv_args, rlk, rs1, rs2, rdl, rky, rcd, rno, rsw, Value.category, List.filter, List.take, List.drop, List.reverse, List.reverseAux, List.cons_append, List.nil_append, Option.toList, Int.toNat, Int.reduceToNat, if_pos, if_neg, reduceIte, ↓reduceIte, Nat.reduceAdd, Nat.reduceEqDiff, Nat.reduceBEq, beq_self_eq_true, Bool.not_true, Bool.not_false, Bool.and_true, Bool.and_false, Bool.true_and, Bool.false_and, gI_sI, gI_sL, gI_sA, gI_sM, gL_sI, gL_sL, gL_sA, gL_sM, aI_sI, aI_sL, aI_sA, aI_sM, aL_sI, aL_sL, aL_sA, aL_sM, Bmethod_0, Bmethod_8, Bmethod_19, Bmethod_24, Bmethod_41, Bmethod_43, Bmethod_56, Bmethod_61, Bmethod_70, Bmethod_80, Bmethod_141, Bmethod_150, Bmethod_152, Bmethod_161, Bmethod_165, Bmethod_166, Bmethod_168, Bmethod_173, Bmethod_182, Bmethod_184, Bmethod_197, Bmethod_204, Bmethod_206, Bmethod_215, Bmethod_217, Bmethod_246, Bmethod_257, Bmethod_259, Bmethod_266, Bmethod_273, Bmethod_275, oi_0, oi_1, oi_10, oi_123, oi_3, oi_40, oi_41, oi_44, oi_5, oi_m2, Pu_cant, Pj_isSign, Pj_isType, Pj_isWord, Pj_open, Pj_param, Pj_piece, Pj_take, Pu_thing, Pj_want, Pu_wrong]; try dsimp only
      try simp only [hR.e2, hR.e14, hR.e15, hR.e17, hR.e18, hR.e36, hR.e42, hR.e49, hR.a3, hR.a6, hR.a51, hR.a19, hR.hp]
      intro p2 q2
      try simp only [hR.e2, hR.e14, hR.e15, hR.e17, hR.e18, hR.e36, hR.e42, hR.e49, hR.a3, hR.a6, hR.a51, hR.a19, hR.hp]
      intro p3 q3
      try simp only [hR.e2, hR.e14, hR.e15, hR.e17, hR.e18, hR.e36, hR.e42, hR.e49, hR.a3, hR.a6, hR.a51, hR.a19, hR.hp]
      intro p4 q4
      try simp only [hR.e2, hR.e14, hR.e15, hR.e17, hR.e18, hR.e36, hR.e42, hR.e49, hR.a3, hR.a6, hR.a51, hR.a19, hR.hp]
      intro p5 q5
      try simp only [hR.e2, hR.e14, hR.e15, hR.e17, hR.e18, hR.e36, hR.e42, hR.e49, hR.a3, hR.a6, hR.a51, hR.a19, hR.hp]
      refine ⟨⟨trivial, trivial⟩, fun w6 τ6 w6' τ6' hq6 => ?_⟩
      obtain ⟨⟨rfl, hE6⟩, rfl, hF6⟩ := hq6
      have hR6 : Rj 1 τ6 τ6' := Rj.th (by (repeat (first | exact hR | refine Rj.i ?_ rfl | refine Rj.a ?_ rfl | refine Rj.m ?_ | refine Rj.s ?_ (by decide) | refine Rj.o1 ?_ (by first | lia | (dsimp only [Nat.beq, gI_sI, gI_sL, gI_sA, gI_sM, gL_sI, gL_sL, gL_sA, gL_sM, aI_sI, aI_sL, aI_sA, aI_sM, aL_sI, aL_sL, aL_sA, aL_sM]; lia)) | refine Rj.o2 ?_ | refine Rj.f1 ?_ (by first | lia | (dsimp only [Nat.beq, gI_sI, gI_sL, gI_sA, gI_sM, gL_sI, gL_sL, gL_sA, gL_sM, aI_sI, aI_sL, aI_sA, aI_sM, aL_sI, aL_sL, aL_sA, aL_sM]; lia)) | refine Rj.f2 ?_ | refine Rj.fs ?_))) hE6 hF6
      have hl6 := hE6.lt
      try dsimp only [Nat.beq, gI_sI, gI_sL, gI_sA, gI_sM, gL_sI, gL_sL, gL_sA, gL_sM, aI_sI, aI_sL, aI_sA, aI_sM, aL_sI, aL_sL, aL_sA, aL_sM] at hl6
      have hp6 := hE6.1 14 (by decide)
      have hh6 := hE6.1 62 (by decide)
      have ht6 := hE6.2.2.2.1 3 (by decide)
      try dsimp only [Nat.beq, gI_sI, gI_sL, gI_sA, gI_sM, gL_sI, gL_sL, gL_sA, gL_sM, aI_sI, aI_sL, aI_sA, aI_sM, aL_sI, aL_sL, aL_sA, aL_sM] at hp6
      try dsimp only [Nat.beq, gI_sI, gI_sL, gI_sA, gI_sM, gL_sI, gL_sL, gL_sA, gL_sM, aI_sI, aI_sL, aI_sA, aI_sM, aL_sI, aL_sL, aL_sA, aL_sM] at hh6
      try dsimp only [Nat.beq, gI_sI, gI_sL, gI_sA, gI_sM, gL_sI, gL_sL, gL_sA, gL_sM, aI_sI, aI_sL, aI_sA, aI_sM, aL_sI, aL_sL, aL_sA, aL_sM] at ht6
      have hz6 := congrFun ht6 (gI τ6 14).toNatClampNeg
      dsimp only [Option.toList, List.cons_append, List.nil_append, Nat.beq, gI_sI, gI_sL, gI_sA, gI_sM, gL_sI, gL_sL, gL_sA, gL_sM, aI_sI, aI_sL, aI_sA, aI_sM, aL_sI, aL_sL, aL_sA, aL_sM]
      have hm6 : aI τ6' 39 (gI X 36).toNatClampNeg = aI τ6 39 (gI X 36).toNatClampNeg := by
        rw [hE6.2.2.2.1 39 (by decide), hF6.2.2.2.1 39 (by decide)]
        dsimp only [Nat.beq, gI_sI, gI_sL, gI_sA, gI_sM, gL_sI, gL_sL, gL_sA, gL_sM, aI_sI, aI_sL, aI_sA, aI_sM, aL_sI, aL_sL, aL_sA, aL_sM]
        rw [upd_eq, upd_eq]
      have hg6 := hE6.1 36 (by decide)
      try dsimp only [Nat.beq, gI_sI, gI_sL, gI_sA, gI_sM, gL_sI, gL_sL, gL_sA, gL_sM, aI_sI, aI_sL, aI_sA, aI_sM, aL_sI, aL_sL, aL_sA, aL_sM] at hg6
      try simp only [hR6.e2, hR6.e14, hR6.e15, hR6.e17, hR6.e18, hR6.e36, hR6.e42, hR6.e49, hR6.e62, hR6.a3, hR6.a6, hR6.a51, hR6.a19, hR6.a63, hR6.a64, hR6.hp, hR.e49, hm6]
      refine ⟨⟨(Rj.w (md := 1) (by (repeat (first | exact hR6 | refine Rj.i ?_ rfl | refine Rj.a ?_ rfl | refine Rj.m ?_ | refine Rj.s ?_ (by decide) | refine Rj.o1 ?_ (by first | lia | (dsimp only [Nat.beq, gI_sI, gI_sL, gI_sA, gI_sM, gL_sI, gL_sL, gL_sA, gL_sM, aI_sI, aI_sL, aI_sA, aI_sM, aL_sI, aL_sL, aL_sA, aL_sM]; lia)) | refine Rj.o2 ?_ | refine Rj.f1 ?_ (by first | lia | (dsimp only [Nat.beq, gI_sI, gI_sL, gI_sA, gI_sM, gL_sI, gL_sL, gL_sA, gL_sM, aI_sI, aI_sL, aI_sA, aI_sM, aL_sI, aL_sL, aL_sA, aL_sM]; lia)) | refine Rj.f2 ?_ | refine Rj.fs ?_)))), by lia, by lia⟩, fun w7 τ7 w7' τ7' hq7 => ?_⟩
      obtain ⟨b7, rfl, rfl, hb7⟩ := hq7
      rcases hb7 with rfl | ⟨rfl, hr7, hk7, hx7⟩
      · dsimp only [Option.toList, List.cons_append, List.nil_append, Nat.beq, gI_sI, gI_sL, gI_sA, gI_sM, gL_sI, gL_sL, gL_sA, gL_sM, aI_sI, aI_sL, aI_sA, aI_sM, aL_sI, aL_sL, aL_sA, aL_sM]
        try simp only [hR6.e2, hR6.e14, hR6.e15, hR6.e17, hR6.e18, hR6.e36, hR6.e42, hR6.e49, hR6.e62, hR6.a3, hR6.a6, hR6.a51, hR6.a19, hR6.a63, hR6.a64, hR6.hp, hR.e49, hm6]
        refine ⟨fun h8 => ⟨(by exact h8), ?_⟩, fun h8 => absurd h8 (by decide)⟩
        clear h8
        refine hB _ _ _ _ _ _ _ _ (fun m9 hm9 => ?_)
        dsimp only [jgo, jwp, jst, jct, rfd, Bmethod, Nat.beq, lv_args, rlk, rs1, rs2, rdl, rky, rcd, rno, rsw, Value.category, List.filter, List.take, List.drop, List.reverse, List.reverseAux, List.cons_append, List.nil_append, Option.toList, Int.toNat, Int.reduceToNat, if_pos, if_neg, reduceIte, ↓reduceIte, Nat.reduceAdd, Nat.reduceEqDiff, Nat.reduceBEq, beq_self_eq_true, Bool.not_true, Bool.not_false, Bool.and_true, Bool.and_false, Bool.true_and, Bool.false_and, gI_sI, gI_sL, gI_sA, gI_sM, gL_sI, gL_sL, gL_sA, gL_sM, aI_sI, aI_sL, aI_sA, aI_sM, aL_sI, aL_sL, aL_sA, aL_sM, Bmethod_0, Bmethod_8, Bmethod_19, Bmethod_24, Bmethod_41, Bmethod_43, Bmethod_56, Bmethod_61, Bmethod_70, Bmethod_80, Bmethod_141, Bmethod_150, Bmethod_152, Bmethod_161, Bmethod_165, Bmethod_166, Bmethod_168, Bmethod_173, Bmethod_182, Bmethod_184, Bmethod_197, Bmethod_204, Bmethod_206, Bmethod_215, Bmethod_217, Bmethod_246, Bmethod_257, Bmethod_259, Bmethod_266, Bmethod_273, Bmethod_275, oi_0, oi_1, oi_10, oi_123, oi_3, oi_40, oi_41, oi_44, oi_5, oi_m2, Pu_cant, Pj_isSign, Pj_isType, Pj_isWord, Pj_open, Pj_param, Pj_piece, Pj_take, Pu_thing, Pj_want, Pu_wrong]; try dsimp only
        try simp only [hR6.e2, hR6.e14, hR6.e15, hR6.e17, hR6.e18, hR6.e36, hR6.e42, hR6.e49, hR6.e62, hR6.a3, hR6.a6, hR6.a51, hR6.a19, hR6.a63, hR6.a64, hR6.hp, hR.e49, hm6]
        unfold Qj_method
        try dsimp only
        exact ⟨_, rfl, rfl, Or.inl rfl⟩
      · dsimp only [Option.toList, List.cons_append, List.nil_append, Nat.beq, gI_sI, gI_sL, gI_sA, gI_sM, gL_sI, gL_sL, gL_sA, gL_sM, aI_sI, aI_sL, aI_sA, aI_sM, aL_sI, aL_sL, aL_sA, aL_sM]
        have hR7 : Rj 1 τ7 τ7' := hr7 _ (by (repeat (first | exact hR6 | refine Rj.i ?_ rfl | refine Rj.a ?_ rfl | refine Rj.m ?_ | refine Rj.s ?_ (by decide) | refine Rj.o1 ?_ (by first | lia | (dsimp only [Nat.beq, gI_sI, gI_sL, gI_sA, gI_sM, gL_sI, gL_sL, gL_sA, gL_sM, aI_sI, aI_sL, aI_sA, aI_sM, aL_sI, aL_sL, aL_sA, aL_sM]; lia)) | refine Rj.o2 ?_ | refine Rj.f1 ?_ (by first | lia | (dsimp only [Nat.beq, gI_sI, gI_sL, gI_sA, gI_sM, gL_sI, gL_sL, gL_sA, gL_sM, aI_sI, aI_sL, aI_sA, aI_sM, aL_sI, aL_sL, aL_sA, aL_sM]; lia)) | refine Rj.f2 ?_ | refine Rj.fs ?_)))
        have ht7 := hk7.2 3 rfl
        have hc7 := hk7.1 2 rfl
        try dsimp only [Nat.beq, gI_sI, gI_sL, gI_sA, gI_sM, gL_sI, gL_sL, gL_sA, gL_sM, aI_sI, aI_sL, aI_sA, aI_sM, aL_sI, aL_sL, aL_sA, aL_sM] at hx7
        try dsimp only [Nat.beq, gI_sI, gI_sL, gI_sA, gI_sM, gL_sI, gL_sL, gL_sA, gL_sM, aI_sI, aI_sL, aI_sA, aI_sM, aL_sI, aL_sL, aL_sA, aL_sM] at ht7
        try dsimp only [Nat.beq, gI_sI, gI_sL, gI_sA, gI_sM, gL_sI, gL_sL, gL_sA, gL_sM, aI_sI, aI_sL, aI_sA, aI_sM, aL_sI, aL_sL, aL_sA, aL_sM] at hc7
        have hh7 := hk7.1 62 rfl
        have hg7 := hk7.1 49 rfl
        try dsimp only [Nat.beq, gI_sI, gI_sL, gI_sA, gI_sM, gL_sI, gL_sL, gL_sA, gL_sM, aI_sI, aI_sL, aI_sA, aI_sM, aL_sI, aL_sL, aL_sA, aL_sM] at hh7
        try dsimp only [Nat.beq, gI_sI, gI_sL, gI_sA, gI_sM, gL_sI, gL_sL, gL_sA, gL_sM, aI_sI, aI_sL, aI_sA, aI_sM, aL_sI, aL_sL, aL_sA, aL_sM] at hg7
        have hz7 := congrFun ht7 (gI τ7 14).toNatClampNeg
        have hg7 : gI τ7 36 = _ ∧ gI τ7 49 = _ := ⟨hk7.1 36 rfl, hk7.1 49 rfl⟩
        try dsimp only [Nat.beq, gI_sI, gI_sL, gI_sA, gI_sM, gL_sI, gL_sL, gL_sA, gL_sM, aI_sI, aI_sL, aI_sA, aI_sM, aL_sI, aL_sL, aL_sA, aL_sM] at hg7
        have hm7 : aI τ7' 39 (gI X 36).toNatClampNeg = aI τ7 39 (gI X 36).toNatClampNeg := (congrFun hx7.2.1 _).trans (Eq.trans hm6 (congrFun (hk7.2 39 rfl) _).symm)
        try simp only [hR7.e2, hR7.e14, hR7.e15, hR7.e17, hR7.e18, hR7.e36, hR7.e42, hR7.e49, hR7.e62, hR7.a3, hR7.a6, hR7.a51, hR7.a19, hR7.a63, hR7.a64, hR7.hp, hR.e49, hm6, hm7]
        refine ⟨fun h10 => absurd h10 (by decide), fun h10 => ⟨(by exact h10), ?_⟩⟩
        clear h10
        refine hB _ _ _ _ _ _ _ _ (fun m11 hm11 => ?_)
        dsimp only [jgo, jwp, jst, jct, rfd, Bmethod, Nat.beq, lv_args, rlk, rs1, rs2, rdl, rky, rcd, rno, rsw, Value.category, List.filter, List.take, List.drop, List.reverse, List.reverseAux, List.cons_append, List.nil_append, Option.toList, Int.toNat, Int.reduceToNat, if_pos, if_neg, reduceIte, ↓reduceIte, Nat.reduceAdd, Nat.reduceEqDiff, Nat.reduceBEq, beq_self_eq_true, Bool.not_true, Bool.not_false, Bool.and_true, Bool.and_false, Bool.true_and, Bool.false_and, gI_sI, gI_sL, gI_sA, gI_sM, gL_sI, gL_sL, gL_sA, gL_sM, aI_sI, aI_sL, aI_sA, aI_sM, aL_sI, aL_sL, aL_sA, aL_sM, Bmethod_0, Bmethod_8, Bmethod_19, Bmethod_24, Bmethod_41, Bmethod_43, Bmethod_56, Bmethod_61, Bmethod_70, Bmethod_80, Bmethod_141, Bmethod_150, Bmethod_152, Bmethod_161, Bmethod_165, Bmethod_166, Bmethod_168, Bmethod_173, Bmethod_182, Bmethod_184, Bmethod_197, Bmethod_204, Bmethod_206, Bmethod_215, Bmethod_217, Bmethod_246, Bmethod_257, Bmethod_259, Bmethod_266, Bmethod_273, Bmethod_275, oi_0, oi_1, oi_10, oi_123, oi_3, oi_40, oi_41, oi_44, oi_5, oi_m2, Pu_cant, Pj_isSign, Pj_isType, Pj_isWord, Pj_open, Pj_param, Pj_piece, Pj_take, Pu_thing, Pj_want, Pu_wrong]; try dsimp only
        try simp only [hR7.e2, hR7.e14, hR7.e15, hR7.e17, hR7.e18, hR7.e36, hR7.e42, hR7.e49, hR7.e62, hR7.a3, hR7.a6, hR7.a51, hR7.a19, hR7.a63, hR7.a64, hR7.hp, hR.e49, hm6, hm7]
        refine ⟨⟨(Rj.w (md := 1) (by (repeat (first | exact hR7 | refine Rj.i ?_ rfl | refine Rj.a ?_ rfl | refine Rj.m ?_ | refine Rj.s ?_ (by decide) | refine Rj.o1 ?_ (by first | lia | (dsimp only [Nat.beq, gI_sI, gI_sL, gI_sA, gI_sM, gL_sI, gL_sL, gL_sA, gL_sM, aI_sI, aI_sL, aI_sA, aI_sM, aL_sI, aL_sL, aL_sA, aL_sM]; lia)) | refine Rj.o2 ?_ | refine Rj.f1 ?_ (by first | lia | (dsimp only [Nat.beq, gI_sI, gI_sL, gI_sA, gI_sM, gL_sI, gL_sL, gL_sA, gL_sM, aI_sI, aI_sL, aI_sA, aI_sM, aL_sI, aL_sL, aL_sA, aL_sM]; lia)) | refine Rj.f2 ?_ | refine Rj.fs ?_)))), (by first | exact True.intro | rfl)⟩, fun w12 τ12 w12' τ12' hq12 => ?_⟩
        obtain ⟨b12, rfl, rfl, hb12⟩ := hq12
        rcases hb12 with rfl | ⟨rfl, hr12, hk12, hx12⟩
        · dsimp only [Option.toList, List.cons_append, List.nil_append, Nat.beq, gI_sI, gI_sL, gI_sA, gI_sM, gL_sI, gL_sL, gL_sA, gL_sM, aI_sI, aI_sL, aI_sA, aI_sM, aL_sI, aL_sL, aL_sA, aL_sM]
          try simp only [hR7.e2, hR7.e14, hR7.e15, hR7.e17, hR7.e18, hR7.e36, hR7.e42, hR7.e49, hR7.e62, hR7.a3, hR7.a6, hR7.a51, hR7.a19, hR7.a63, hR7.a64, hR7.hp, hR.e49, hm6, hm7]
          refine ⟨fun h13 => absurd h13 (by decide), fun h13 => ⟨(by exact h13), ?_⟩⟩
          clear h13
          refine hB _ _ _ _ _ _ _ _ (fun m14 hm14 => ?_)
          dsimp only [jgo, jwp, jst, jct, rfd, Bmethod, Nat.beq, lv_args, rlk, rs1, rs2, rdl, rky, rcd, rno, rsw, Value.category, List.filter, List.take, List.drop, List.reverse, List.reverseAux, List.cons_append, List.nil_append, Option.toList, Int.toNat, Int.reduceToNat, if_pos, if_neg, reduceIte, ↓reduceIte, Nat.reduceAdd, Nat.reduceEqDiff, Nat.reduceBEq, beq_self_eq_true, Bool.not_true, Bool.not_false, Bool.and_true, Bool.and_false, Bool.true_and, Bool.false_and, gI_sI, gI_sL, gI_sA, gI_sM, gL_sI, gL_sL, gL_sA, gL_sM, aI_sI, aI_sL, aI_sA, aI_sM, aL_sI, aL_sL, aL_sA, aL_sM, Bmethod_0, Bmethod_8, Bmethod_19, Bmethod_24, Bmethod_41, Bmethod_43, Bmethod_56, Bmethod_61, Bmethod_70, Bmethod_80, Bmethod_141, Bmethod_150, Bmethod_152, Bmethod_161, Bmethod_165, Bmethod_166, Bmethod_168, Bmethod_173, Bmethod_182, Bmethod_184, Bmethod_197, Bmethod_204, Bmethod_206, Bmethod_215, Bmethod_217, Bmethod_246, Bmethod_257, Bmethod_259, Bmethod_266, Bmethod_273, Bmethod_275, oi_0, oi_1, oi_10, oi_123, oi_3, oi_40, oi_41, oi_44, oi_5, oi_m2, Pu_cant, Pj_isSign, Pj_isType, Pj_isWord, Pj_open, Pj_param, Pj_piece, Pj_take, Pu_thing, Pj_want, Pu_wrong]; try dsimp only
          try simp only [hR7.e2, hR7.e14, hR7.e15, hR7.e17, hR7.e18, hR7.e36, hR7.e42, hR7.e49, hR7.e62, hR7.a3, hR7.a6, hR7.a51, hR7.a19, hR7.a63, hR7.a64, hR7.hp, hR.e49, hm6, hm7]
          unfold Qj_method
          try dsimp only
          exact ⟨_, rfl, rfl, Or.inl rfl⟩
        · dsimp only [Option.toList, List.cons_append, List.nil_append, Nat.beq, gI_sI, gI_sL, gI_sA, gI_sM, gL_sI, gL_sL, gL_sA, gL_sM, aI_sI, aI_sL, aI_sA, aI_sM, aL_sI, aL_sL, aL_sA, aL_sM]
          have hR12 : Rj 1 τ12 τ12' := hr12 _ (by (repeat (first | exact hR7 | refine Rj.i ?_ rfl | refine Rj.a ?_ rfl | refine Rj.m ?_ | refine Rj.s ?_ (by decide) | refine Rj.o1 ?_ (by first | lia | (dsimp only [Nat.beq, gI_sI, gI_sL, gI_sA, gI_sM, gL_sI, gL_sL, gL_sA, gL_sM, aI_sI, aI_sL, aI_sA, aI_sM, aL_sI, aL_sL, aL_sA, aL_sM]; lia)) | refine Rj.o2 ?_ | refine Rj.f1 ?_ (by first | lia | (dsimp only [Nat.beq, gI_sI, gI_sL, gI_sA, gI_sM, gL_sI, gL_sL, gL_sA, gL_sM, aI_sI, aI_sL, aI_sA, aI_sM, aL_sI, aL_sL, aL_sA, aL_sM]; lia)) | refine Rj.f2 ?_ | refine Rj.fs ?_)))
          have ht12 := hk12.2 3 rfl
          have hc12 := hk12.1 2 rfl
          try dsimp only [Nat.beq, gI_sI, gI_sL, gI_sA, gI_sM, gL_sI, gL_sL, gL_sA, gL_sM, aI_sI, aI_sL, aI_sA, aI_sM, aL_sI, aL_sL, aL_sA, aL_sM] at hx12
          try dsimp only [Nat.beq, gI_sI, gI_sL, gI_sA, gI_sM, gL_sI, gL_sL, gL_sA, gL_sM, aI_sI, aI_sL, aI_sA, aI_sM, aL_sI, aL_sL, aL_sA, aL_sM] at ht12
          try dsimp only [Nat.beq, gI_sI, gI_sL, gI_sA, gI_sM, gL_sI, gL_sL, gL_sA, gL_sM, aI_sI, aI_sL, aI_sA, aI_sM, aL_sI, aL_sL, aL_sA, aL_sM] at hc12
          have hh12 := hk12.1 62 rfl
          have hg12 := hk12.1 49 rfl
          try dsimp only [Nat.beq, gI_sI, gI_sL, gI_sA, gI_sM, gL_sI, gL_sL, gL_sA, gL_sM, aI_sI, aI_sL, aI_sA, aI_sM, aL_sI, aL_sL, aL_sA, aL_sM] at hh12
          try dsimp only [Nat.beq, gI_sI, gI_sL, gI_sA, gI_sM, gL_sI, gL_sL, gL_sA, gL_sM, aI_sI, aI_sL, aI_sA, aI_sM, aL_sI, aL_sL, aL_sA, aL_sM] at hg12
          have hz12 := congrFun ht12 (gI τ12 14).toNatClampNeg
          have hg12 : gI τ12 36 = _ ∧ gI τ12 49 = _ := ⟨hk12.1 36 rfl, hk12.1 49 rfl⟩
          try dsimp only [Nat.beq, gI_sI, gI_sL, gI_sA, gI_sM, gL_sI, gL_sL, gL_sA, gL_sM, aI_sI, aI_sL, aI_sA, aI_sM, aL_sI, aL_sL, aL_sA, aL_sM] at hg12
          have hm12 : aI τ12' 39 (gI X 36).toNatClampNeg = aI τ12 39 (gI X 36).toNatClampNeg := (congrFun hx12 _).trans (Eq.trans hm7 (congrFun (hk12.2 39 rfl) _).symm)
          try simp only [hR12.e2, hR12.e14, hR12.e15, hR12.e17, hR12.e18, hR12.e36, hR12.e42, hR12.e49, hR12.e62, hR12.a3, hR12.a6, hR12.a51, hR12.a19, hR12.a63, hR12.a64, hR12.hp, hR.e49, hm6, hm7, hm12]
          refine ⟨fun h15 => ⟨(by exact h15), ?_⟩, fun h15 => absurd h15 (by decide)⟩
          clear h15
          refine hB _ _ _ _ _ _ _ _ (fun m16 hm16 => ?_)
          dsimp only [jgo, jwp, jst, jct, rfd, Bmethod, Nat.beq, lv_args, rlk, rs1, rs2, rdl, rky, rcd, rno, rsw, Value.category, List.filter, List.take, List.drop, List.reverse, List.reverseAux, List.cons_append, List.nil_append, Option.toList, Int.toNat, Int.reduceToNat, if_pos, if_neg, reduceIte, ↓reduceIte, Nat.reduceAdd, Nat.reduceEqDiff, Nat.reduceBEq, beq_self_eq_true, Bool.not_true, Bool.not_false, Bool.and_true, Bool.and_false, Bool.true_and, Bool.false_and, gI_sI, gI_sL, gI_sA, gI_sM, gL_sI, gL_sL, gL_sA, gL_sM, aI_sI, aI_sL, aI_sA, aI_sM, aL_sI, aL_sL, aL_sA, aL_sM, Bmethod_0, Bmethod_8, Bmethod_19, Bmethod_24, Bmethod_41, Bmethod_43, Bmethod_56, Bmethod_61, Bmethod_70, Bmethod_80, Bmethod_141, Bmethod_150, Bmethod_152, Bmethod_161, Bmethod_165, Bmethod_166, Bmethod_168, Bmethod_173, Bmethod_182, Bmethod_184, Bmethod_197, Bmethod_204, Bmethod_206, Bmethod_215, Bmethod_217, Bmethod_246, Bmethod_257, Bmethod_259, Bmethod_266, Bmethod_273, Bmethod_275, oi_0, oi_1, oi_10, oi_123, oi_3, oi_40, oi_41, oi_44, oi_5, oi_m2, Pu_cant, Pj_isSign, Pj_isType, Pj_isWord, Pj_open, Pj_param, Pj_piece, Pj_take, Pu_thing, Pj_want, Pu_wrong]; try dsimp only
          try simp only [hR12.e2, hR12.e14, hR12.e15, hR12.e17, hR12.e18, hR12.e36, hR12.e42, hR12.e49, hR12.e62, hR12.a3, hR12.a6, hR12.a51, hR12.a19, hR12.a63, hR12.a64, hR12.hp, hR.e49, hm6, hm7, hm12]
          refine ⟨⟨(Rj.w (md := 1) (by (repeat (first | exact hR12 | refine Rj.i ?_ rfl | refine Rj.a ?_ rfl | refine Rj.m ?_ | refine Rj.s ?_ (by decide) | refine Rj.o1 ?_ (by first | lia | (dsimp only [Nat.beq, gI_sI, gI_sL, gI_sA, gI_sM, gL_sI, gL_sL, gL_sA, gL_sM, aI_sI, aI_sL, aI_sA, aI_sM, aL_sI, aL_sL, aL_sA, aL_sM]; lia)) | refine Rj.o2 ?_ | refine Rj.f1 ?_ (by first | lia | (dsimp only [Nat.beq, gI_sI, gI_sL, gI_sA, gI_sM, gL_sI, gL_sL, gL_sA, gL_sM, aI_sI, aI_sL, aI_sA, aI_sM, aL_sI, aL_sL, aL_sA, aL_sM]; lia)) | refine Rj.f2 ?_ | refine Rj.fs ?_)))), (by first | exact True.intro | rfl)⟩, fun w17 τ17 w17' τ17' hq17 => ?_⟩
          obtain ⟨b17, rfl, rfl, rfl, rfl, hb17⟩ := hq17
          rcases hb17 with rfl | ⟨rfl, hf17⟩
          · dsimp only [Option.toList, List.cons_append, List.nil_append, Nat.beq, gI_sI, gI_sL, gI_sA, gI_sM, gL_sI, gL_sL, gL_sA, gL_sM, aI_sI, aI_sL, aI_sA, aI_sM, aL_sI, aL_sL, aL_sA, aL_sM]
            try simp only [hR12.e2, hR12.e14, hR12.e15, hR12.e17, hR12.e18, hR12.e36, hR12.e42, hR12.e49, hR12.e62, hR12.a3, hR12.a6, hR12.a51, hR12.a19, hR12.a63, hR12.a64, hR12.hp, hR.e49, hm6, hm7, hm12]
            refine ⟨fun h18 => absurd h18 (by decide), fun h18 => ⟨(by exact h18), ?_⟩⟩
            clear h18
            refine hB _ _ _ _ _ _ _ _ (fun m19 hm19 => ?_)
            dsimp only [jgo, jwp, jst, jct, rfd, Bmethod, Nat.beq, lv_args, rlk, rs1, rs2, rdl, rky, rcd, rno, rsw, Value.category, List.filter, List.take, List.drop, List.reverse, List.reverseAux, List.cons_append, List.nil_append, Option.toList, Int.toNat, Int.reduceToNat, if_pos, if_neg, reduceIte, ↓reduceIte, Nat.reduceAdd, Nat.reduceEqDiff, Nat.reduceBEq, beq_self_eq_true, Bool.not_true, Bool.not_false, Bool.and_true, Bool.and_false, Bool.true_and, Bool.false_and, gI_sI, gI_sL, gI_sA, gI_sM, gL_sI, gL_sL, gL_sA, gL_sM, aI_sI, aI_sL, aI_sA, aI_sM, aL_sI, aL_sL, aL_sA, aL_sM, Bmethod_0, Bmethod_8, Bmethod_19, Bmethod_24, Bmethod_41, Bmethod_43, Bmethod_56, Bmethod_61, Bmethod_70, Bmethod_80, Bmethod_141, Bmethod_150, Bmethod_152, Bmethod_161, Bmethod_165, Bmethod_166, Bmethod_168, Bmethod_173, Bmethod_182, Bmethod_184, Bmethod_197, Bmethod_204, Bmethod_206, Bmethod_215, Bmethod_217, Bmethod_246, Bmethod_257, Bmethod_259, Bmethod_266, Bmethod_273, Bmethod_275, oi_0, oi_1, oi_10, oi_123, oi_3, oi_40, oi_41, oi_44, oi_5, oi_m2, Pu_cant, Pj_isSign, Pj_isType, Pj_isWord, Pj_open, Pj_param, Pj_piece, Pj_take, Pu_thing, Pj_want, Pu_wrong]; try dsimp only
            try simp only [hR12.e2, hR12.e14, hR12.e15, hR12.e17, hR12.e18, hR12.e36, hR12.e42, hR12.e49, hR12.e62, hR12.a3, hR12.a6, hR12.a51, hR12.a19, hR12.a63, hR12.a64, hR12.hp, hR.e49, hm6, hm7, hm12]
            refine hB _ _ _ _ _ _ _ _ (fun m20 hm20 => ?_)
            dsimp only [jgo, jwp, jst, jct, rfd, Bmethod, Nat.beq, lv_args, rlk, rs1, rs2, rdl, rky, rcd, rno, rsw, Value.category, List.filter, List.take, List.drop, List.reverse, List.reverseAux, List.cons_append, List.nil_append, Option.toList, Int.toNat, Int.reduceToNat, if_pos, if_neg, reduceIte, ↓reduceIte, Nat.reduceAdd, Nat.reduceEqDiff, Nat.reduceBEq, beq_self_eq_true, Bool.not_true, Bool.not_false, Bool.and_true, Bool.and_false, Bool.true_and, Bool.false_and, gI_sI, gI_sL, gI_sA, gI_sM, gL_sI, gL_sL, gL_sA, gL_sM, aI_sI, aI_sL, aI_sA, aI_sM, aL_sI, aL_sL, aL_sA, aL_sM, Bmethod_0, Bmethod_8, Bmethod_19, Bmethod_24, Bmethod_41, Bmethod_43, Bmethod_56, Bmethod_61, Bmethod_70, Bmethod_80, Bmethod_141, Bmethod_150, Bmethod_152, Bmethod_161, Bmethod_165, Bmethod_166, Bmethod_168, Bmethod_173, Bmethod_182, Bmethod_184, Bmethod_197, Bmethod_204, Bmethod_206, Bmethod_215, Bmethod_217, Bmethod_246, Bmethod_257, Bmethod_259, Bmethod_266, Bmethod_273, Bmethod_275, oi_0, oi_1, oi_10, oi_123, oi_3, oi_40, oi_41, oi_44, oi_5, oi_m2, Pu_cant, Pj_isSign, Pj_isType, Pj_isWord, Pj_open, Pj_param, Pj_piece, Pj_take, Pu_thing, Pj_want, Pu_wrong]; try dsimp only
            try simp only [hR12.e2, hR12.e14, hR12.e15, hR12.e17, hR12.e18, hR12.e36, hR12.e42, hR12.e49, hR12.e62, hR12.a3, hR12.a6, hR12.a51, hR12.a19, hR12.a63, hR12.a64, hR12.hp, hR.e49, hm6, hm7, hm12]
            exact hW _ 168 [(0, .ref 1000), (2, .int (gI X 36)), (3, .int (gI X 49)), (4, .int 1)] [(0, .ref 1000), (2, .int (gI X 36)), (3, .int (gI X 49)), (4, .int 1)] _ _ _ _ _ _ (by simp [rdl, rky]) (by simp [rdl, rky]) (t168 _ _ _ (gI X 36) (gI X 49) 1 (by (repeat (first | exact hR12 | refine Rj.i ?_ rfl | refine Rj.a ?_ rfl | refine Rj.m ?_ | refine Rj.s ?_ (by decide) | refine Rj.o1 ?_ (by first | lia | (dsimp only [Nat.beq, gI_sI, gI_sL, gI_sA, gI_sM, gL_sI, gL_sL, gL_sA, gL_sM, aI_sI, aI_sL, aI_sA, aI_sM, aL_sI, aL_sL, aL_sA, aL_sM]; lia)) | refine Rj.o2 ?_ | refine Rj.f1 ?_ (by first | lia | (dsimp only [Nat.beq, gI_sI, gI_sL, gI_sA, gI_sM, gL_sI, gL_sL, gL_sA, gL_sM, aI_sI, aI_sL, aI_sA, aI_sM, aL_sI, aL_sL, aL_sA, aL_sM]; lia)) | refine Rj.f2 ?_ | refine Rj.fs ?_))) (by lia) hm12)
          · dsimp only [Option.toList, List.cons_append, List.nil_append, Nat.beq, gI_sI, gI_sL, gI_sA, gI_sM, gL_sI, gL_sL, gL_sA, gL_sM, aI_sI, aI_sL, aI_sA, aI_sM, aL_sI, aL_sL, aL_sA, aL_sM]
            try dsimp only [Nat.beq, gI_sI, gI_sL, gI_sA, gI_sM, gL_sI, gL_sL, gL_sA, gL_sM, aI_sI, aI_sL, aI_sA, aI_sM, aL_sI, aL_sL, aL_sA, aL_sM] at hf17
            try simp only [hR12.e2, hR12.e14, hR12.e15, hR12.e17, hR12.e18, hR12.e36, hR12.e42, hR12.e49, hR12.e62, hR12.a3, hR12.a6, hR12.a51, hR12.a19, hR12.a63, hR12.a64, hR12.hp, hR.e49, hm6, hm7, hm12]
            refine ⟨fun h21 => ⟨(by exact h21), ?_⟩, fun h21 => absurd h21 (by decide)⟩
            clear h21
            refine hB _ _ _ _ _ _ _ _ (fun m22 hm22 => ?_)
            dsimp only [jgo, jwp, jst, jct, rfd, Bmethod, Nat.beq, lv_args, rlk, rs1, rs2, rdl, rky, rcd, rno, rsw, Value.category, List.filter, List.take, List.drop, List.reverse, List.reverseAux, List.cons_append, List.nil_append, Option.toList, Int.toNat, Int.reduceToNat, if_pos, if_neg, reduceIte, ↓reduceIte, Nat.reduceAdd, Nat.reduceEqDiff, Nat.reduceBEq, beq_self_eq_true, Bool.not_true, Bool.not_false, Bool.and_true, Bool.and_false, Bool.true_and, Bool.false_and, gI_sI, gI_sL, gI_sA, gI_sM, gL_sI, gL_sL, gL_sA, gL_sM, aI_sI, aI_sL, aI_sA, aI_sM, aL_sI, aL_sL, aL_sA, aL_sM, Bmethod_0, Bmethod_8, Bmethod_19, Bmethod_24, Bmethod_41, Bmethod_43, Bmethod_56, Bmethod_61, Bmethod_70, Bmethod_80, Bmethod_141, Bmethod_150, Bmethod_152, Bmethod_161, Bmethod_165, Bmethod_166, Bmethod_168, Bmethod_173, Bmethod_182, Bmethod_184, Bmethod_197, Bmethod_204, Bmethod_206, Bmethod_215, Bmethod_217, Bmethod_246, Bmethod_257, Bmethod_259, Bmethod_266, Bmethod_273, Bmethod_275, oi_0, oi_1, oi_10, oi_123, oi_3, oi_40, oi_41, oi_44, oi_5, oi_m2, Pu_cant, Pj_isSign, Pj_isType, Pj_isWord, Pj_open, Pj_param, Pj_piece, Pj_take, Pu_thing, Pj_want, Pu_wrong]; try dsimp only
            try simp only [hR12.e2, hR12.e14, hR12.e15, hR12.e17, hR12.e18, hR12.e36, hR12.e42, hR12.e49, hR12.e62, hR12.a3, hR12.a6, hR12.a51, hR12.a19, hR12.a63, hR12.a64, hR12.hp, hR.e49, hm6, hm7, hm12]
            refine hB _ _ _ _ _ _ _ _ (fun m23 hm23 => ?_)
            dsimp only [jgo, jwp, jst, jct, rfd, Bmethod, Nat.beq, lv_args, rlk, rs1, rs2, rdl, rky, rcd, rno, rsw, Value.category, List.filter, List.take, List.drop, List.reverse, List.reverseAux, List.cons_append, List.nil_append, Option.toList, Int.toNat, Int.reduceToNat, if_pos, if_neg, reduceIte, ↓reduceIte, Nat.reduceAdd, Nat.reduceEqDiff, Nat.reduceBEq, beq_self_eq_true, Bool.not_true, Bool.not_false, Bool.and_true, Bool.and_false, Bool.true_and, Bool.false_and, gI_sI, gI_sL, gI_sA, gI_sM, gL_sI, gL_sL, gL_sA, gL_sM, aI_sI, aI_sL, aI_sA, aI_sM, aL_sI, aL_sL, aL_sA, aL_sM, Bmethod_0, Bmethod_8, Bmethod_19, Bmethod_24, Bmethod_41, Bmethod_43, Bmethod_56, Bmethod_61, Bmethod_70, Bmethod_80, Bmethod_141, Bmethod_150, Bmethod_152, Bmethod_161, Bmethod_165, Bmethod_166, Bmethod_168, Bmethod_173, Bmethod_182, Bmethod_184, Bmethod_197, Bmethod_204, Bmethod_206, Bmethod_215, Bmethod_217, Bmethod_246, Bmethod_257, Bmethod_259, Bmethod_266, Bmethod_273, Bmethod_275, oi_0, oi_1, oi_10, oi_123, oi_3, oi_40, oi_41, oi_44, oi_5, oi_m2, Pu_cant, Pj_isSign, Pj_isType, Pj_isWord, Pj_open, Pj_param, Pj_piece, Pj_take, Pu_thing, Pj_want, Pu_wrong]; try dsimp only
            try simp only [hR12.e2, hR12.e14, hR12.e15, hR12.e17, hR12.e18, hR12.e36, hR12.e42, hR12.e49, hR12.e62, hR12.a3, hR12.a6, hR12.a51, hR12.a19, hR12.a63, hR12.a64, hR12.hp, hR.e49, hm6, hm7, hm12]
            exact hW _ 168 [(0, .ref 1000), (2, .int (gI X 36)), (3, .int (gI X 49)), (4, .int 0)] [(0, .ref 1000), (2, .int (gI X 36)), (3, .int (gI X 49)), (4, .int 0)] _ _ _ _ _ _ (by simp [rdl, rky]) (by simp [rdl, rky]) (t168 _ _ _ (gI X 36) (gI X 49) 0 (by (repeat (first | exact hR12 | refine Rj.i ?_ rfl | refine Rj.a ?_ rfl | refine Rj.m ?_ | refine Rj.s ?_ (by decide) | refine Rj.o1 ?_ (by first | lia | (dsimp only [Nat.beq, gI_sI, gI_sL, gI_sA, gI_sM, gL_sI, gL_sL, gL_sA, gL_sM, aI_sI, aI_sL, aI_sA, aI_sM, aL_sI, aL_sL, aL_sA, aL_sM]; lia)) | refine Rj.o2 ?_ | refine Rj.f1 ?_ (by first | lia | (dsimp only [Nat.beq, gI_sI, gI_sL, gI_sA, gI_sM, gL_sI, gL_sL, gL_sA, gL_sM, aI_sI, aI_sL, aI_sA, aI_sM, aL_sI, aL_sL, aL_sA, aL_sM]; lia)) | refine Rj.f2 ?_ | refine Rj.fs ?_))) (by lia) hm12)
    have t24 : ∀ n : Nat, aI σ 3 (gI σ 14).toNatClampNeg = 4 → K n 24 [(0, .ref 1000)] [(0, .ref 1000)] [] [] σ ρ := by
      intro n htk
      refine hB _ _ _ _ _ _ _ _ (fun m1 hm1 => ?_)
      dsimp only [jgo, jwp, jst, jct, rfd, Bmethod, Nat.beq, lv_args, rlk, rs1, rs2, rdl, rky, rcd, rno, rsw, Value.category, List.filter, List.take, List.drop, List.reverse, List.reverseAux, List.cons_append, List.nil_append, Option.toList, Int.toNat, Int.reduceToNat, if_pos, if_neg, reduceIte, ↓reduceIte, Nat.reduceAdd, Nat.reduceEqDiff, Nat.reduceBEq, beq_self_eq_true, Bool.not_true, Bool.not_false, Bool.and_true, Bool.and_false, Bool.true_and, Bool.false_and, gI_sI, gI_sL, gI_sA, gI_sM, gL_sI, gL_sL, gL_sA, gL_sM, aI_sI, aI_sL, aI_sA, aI_sM, aL_sI, aL_sL, aL_sA, aL_sM, Bmethod_0, Bmethod_8, Bmethod_19, Bmethod_24, Bmethod_41, Bmethod_43, Bmethod_56, Bmethod_61, Bmethod_70, Bmethod_80, Bmethod_141, Bmethod_150, Bmethod_152, Bmethod_161, Bmethod_165, Bmethod_166, Bmethod_168, Bmethod_173, Bmethod_182, Bmethod_184, Bmethod_197, Bmethod_204, Bmethod_206, Bmethod_215, Bmethod_217, Bmethod_246, Bmethod_257, Bmethod_259, Bmethod_266, Bmethod_273, Bmethod_275, oi_0, oi_1, oi_10, oi_123, oi_3, oi_40, oi_41, oi_44, oi_5, oi_m2, Pu_cant, Pj_isSign, Pj_isType, Pj_isWord, Pj_open, Pj_param, Pj_piece, Pj_take, Pu_thing, Pj_want, Pu_wrong]; try dsimp only
      try simp only [hR.e2, hR.e14, hR.e15, hR.e17, hR.e18, hR.e36, hR.e42, hR.e49, hR.a3, hR.a6, hR.a51, hR.a19, hR.hp]
      intro p2 q2
      try simp only [hR.e2, hR.e14, hR.e15, hR.e17, hR.e18, hR.e36, hR.e42, hR.e49, hR.a3, hR.a6, hR.a51, hR.a19, hR.hp]
      refine ⟨⟨(Rj.w (md := 0) (by (repeat (first | exact hR | refine Rj.i ?_ rfl | refine Rj.a ?_ rfl | refine Rj.m ?_ | refine Rj.s ?_ (by decide) | refine Rj.o1 ?_ (by first | lia | (dsimp only [Nat.beq, gI_sI, gI_sL, gI_sA, gI_sM, gL_sI, gL_sL, gL_sA, gL_sM, aI_sI, aI_sL, aI_sA, aI_sM, aL_sI, aL_sL, aL_sA, aL_sM]; lia)) | refine Rj.o2 ?_ | refine Rj.f1 ?_ (by first | lia | (dsimp only [Nat.beq, gI_sI, gI_sL, gI_sA, gI_sM, gL_sI, gL_sL, gL_sA, gL_sM, aI_sI, aI_sL, aI_sA, aI_sM, aL_sI, aL_sL, aL_sA, aL_sM]; lia)) | refine Rj.f2 ?_ | refine Rj.fs ?_)))), by lia, by lia⟩, fun w3 τ3 w3' τ3' hq3 => ?_⟩
      obtain ⟨b3, rfl, rfl, hb3⟩ := hq3
      rcases hb3 with rfl | ⟨rfl, hr3, hk3, hx3⟩
      · dsimp only [Option.toList, List.cons_append, List.nil_append, Nat.beq, gI_sI, gI_sL, gI_sA, gI_sM, gL_sI, gL_sL, gL_sA, gL_sM, aI_sI, aI_sL, aI_sA, aI_sM, aL_sI, aL_sL, aL_sA, aL_sM]
        try simp only [hR.e2, hR.e14, hR.e15, hR.e17, hR.e18, hR.e36, hR.e42, hR.e49, hR.a3, hR.a6, hR.a51, hR.a19, hR.hp]
        refine ⟨fun h4 => absurd h4 (by decide), fun h4 => ⟨(by exact h4), ?_⟩⟩
        clear h4
        refine hB _ _ _ _ _ _ _ _ (fun m5 hm5 => ?_)
        dsimp only [jgo, jwp, jst, jct, rfd, Bmethod, Nat.beq, lv_args, rlk, rs1, rs2, rdl, rky, rcd, rno, rsw, Value.category, List.filter, List.take, List.drop, List.reverse, List.reverseAux, List.cons_append, List.nil_append, Option.toList, Int.toNat, Int.reduceToNat, if_pos, if_neg, reduceIte, ↓reduceIte, Nat.reduceAdd, Nat.reduceEqDiff, Nat.reduceBEq, beq_self_eq_true, Bool.not_true, Bool.not_false, Bool.and_true, Bool.and_false, Bool.true_and, Bool.false_and, gI_sI, gI_sL, gI_sA, gI_sM, gL_sI, gL_sL, gL_sA, gL_sM, aI_sI, aI_sL, aI_sA, aI_sM, aL_sI, aL_sL, aL_sA, aL_sM, Bmethod_0, Bmethod_8, Bmethod_19, Bmethod_24, Bmethod_41, Bmethod_43, Bmethod_56, Bmethod_61, Bmethod_70, Bmethod_80, Bmethod_141, Bmethod_150, Bmethod_152, Bmethod_161, Bmethod_165, Bmethod_166, Bmethod_168, Bmethod_173, Bmethod_182, Bmethod_184, Bmethod_197, Bmethod_204, Bmethod_206, Bmethod_215, Bmethod_217, Bmethod_246, Bmethod_257, Bmethod_259, Bmethod_266, Bmethod_273, Bmethod_275, oi_0, oi_1, oi_10, oi_123, oi_3, oi_40, oi_41, oi_44, oi_5, oi_m2, Pu_cant, Pj_isSign, Pj_isType, Pj_isWord, Pj_open, Pj_param, Pj_piece, Pj_take, Pu_thing, Pj_want, Pu_wrong]; try dsimp only
        try simp only [hR.e2, hR.e14, hR.e15, hR.e17, hR.e18, hR.e36, hR.e42, hR.e49, hR.a3, hR.a6, hR.a51, hR.a19, hR.hp]
        unfold Qj_method
        try dsimp only
        exact ⟨_, rfl, rfl, Or.inl rfl⟩
      · dsimp only [Option.toList, List.cons_append, List.nil_append, Nat.beq, gI_sI, gI_sL, gI_sA, gI_sM, gL_sI, gL_sL, gL_sA, gL_sM, aI_sI, aI_sL, aI_sA, aI_sM, aL_sI, aL_sL, aL_sA, aL_sM]
        have hR3 : Rj 0 τ3 τ3' := hr3 _ (by (repeat (first | exact hR | refine Rj.i ?_ rfl | refine Rj.a ?_ rfl | refine Rj.m ?_ | refine Rj.s ?_ (by decide) | refine Rj.o1 ?_ (by first | lia | (dsimp only [Nat.beq, gI_sI, gI_sL, gI_sA, gI_sM, gL_sI, gL_sL, gL_sA, gL_sM, aI_sI, aI_sL, aI_sA, aI_sM, aL_sI, aL_sL, aL_sA, aL_sM]; lia)) | refine Rj.o2 ?_ | refine Rj.f1 ?_ (by first | lia | (dsimp only [Nat.beq, gI_sI, gI_sL, gI_sA, gI_sM, gL_sI, gL_sL, gL_sA, gL_sM, aI_sI, aI_sL, aI_sA, aI_sM, aL_sI, aL_sL, aL_sA, aL_sM]; lia)) | refine Rj.f2 ?_ | refine Rj.fs ?_)))
        have ht3 := hk3.2 3 rfl
        have hc3 := hk3.1 2 rfl
        try dsimp only [Nat.beq, gI_sI, gI_sL, gI_sA, gI_sM, gL_sI, gL_sL, gL_sA, gL_sM, aI_sI, aI_sL, aI_sA, aI_sM, aL_sI, aL_sL, aL_sA, aL_sM] at hx3
        try dsimp only [Nat.beq, gI_sI, gI_sL, gI_sA, gI_sM, gL_sI, gL_sL, gL_sA, gL_sM, aI_sI, aI_sL, aI_sA, aI_sM, aL_sI, aL_sL, aL_sA, aL_sM] at ht3
        try dsimp only [Nat.beq, gI_sI, gI_sL, gI_sA, gI_sM, gL_sI, gL_sL, gL_sA, gL_sM, aI_sI, aI_sL, aI_sA, aI_sM, aL_sI, aL_sL, aL_sA, aL_sM] at hc3
        have hh3 := hk3.1 62 rfl
        have hg3 := hk3.1 49 rfl
        try dsimp only [Nat.beq, gI_sI, gI_sL, gI_sA, gI_sM, gL_sI, gL_sL, gL_sA, gL_sM, aI_sI, aI_sL, aI_sA, aI_sM, aL_sI, aL_sL, aL_sA, aL_sM] at hh3
        try dsimp only [Nat.beq, gI_sI, gI_sL, gI_sA, gI_sM, gL_sI, gL_sL, gL_sA, gL_sM, aI_sI, aI_sL, aI_sA, aI_sM, aL_sI, aL_sL, aL_sA, aL_sM] at hg3
        have hz3 := congrFun ht3 (gI τ3 14).toNatClampNeg
        try simp only [hR3.e2, hR3.e14, hR3.e15, hR3.e17, hR3.e18, hR3.e36, hR3.e42, hR3.e49, hR3.a3, hR3.a6, hR3.a51, hR3.a19, hR3.hp]
        refine ⟨fun h6 => ⟨(by exact h6), ?_⟩, fun h6 => absurd h6 (by decide)⟩
        clear h6
        refine hB _ _ _ _ _ _ _ _ (fun m7 hm7 => ?_)
        dsimp only [jgo, jwp, jst, jct, rfd, Bmethod, Nat.beq, lv_args, rlk, rs1, rs2, rdl, rky, rcd, rno, rsw, Value.category, List.filter, List.take, List.drop, List.reverse, List.reverseAux, List.cons_append, List.nil_append, Option.toList, Int.toNat, Int.reduceToNat, if_pos, if_neg, reduceIte, ↓reduceIte, Nat.reduceAdd, Nat.reduceEqDiff, Nat.reduceBEq, beq_self_eq_true, Bool.not_true, Bool.not_false, Bool.and_true, Bool.and_false, Bool.true_and, Bool.false_and, gI_sI, gI_sL, gI_sA, gI_sM, gL_sI, gL_sL, gL_sA, gL_sM, aI_sI, aI_sL, aI_sA, aI_sM, aL_sI, aL_sL, aL_sA, aL_sM, Bmethod_0, Bmethod_8, Bmethod_19, Bmethod_24, Bmethod_41, Bmethod_43, Bmethod_56, Bmethod_61, Bmethod_70, Bmethod_80, Bmethod_141, Bmethod_150, Bmethod_152, Bmethod_161, Bmethod_165, Bmethod_166, Bmethod_168, Bmethod_173, Bmethod_182, Bmethod_184, Bmethod_197, Bmethod_204, Bmethod_206, Bmethod_215, Bmethod_217, Bmethod_246, Bmethod_257, Bmethod_259, Bmethod_266, Bmethod_273, Bmethod_275, oi_0, oi_1, oi_10, oi_123, oi_3, oi_40, oi_41, oi_44, oi_5, oi_m2, Pu_cant, Pj_isSign, Pj_isType, Pj_isWord, Pj_open, Pj_param, Pj_piece, Pj_take, Pu_thing, Pj_want, Pu_wrong]; try dsimp only
        try simp only [hR3.e2, hR3.e14, hR3.e15, hR3.e17, hR3.e18, hR3.e36, hR3.e42, hR3.e49, hR3.a3, hR3.a6, hR3.a51, hR3.a19, hR3.hp]
        intro p8 q8
        try simp only [hR3.e2, hR3.e14, hR3.e15, hR3.e17, hR3.e18, hR3.e36, hR3.e42, hR3.e49, hR3.a3, hR3.a6, hR3.a51, hR3.a19, hR3.hp]
        refine ⟨fun h9 => ⟨(by exact h9), ?_⟩, fun h9 => ⟨(by exact h9), ?_⟩⟩
        · refine hB _ _ _ _ _ _ _ _ (fun m10 hm10 => ?_)
          dsimp only [jgo, jwp, jst, jct, rfd, Bmethod, Nat.beq, lv_args, rlk, rs1, rs2, rdl, rky, rcd, rno, rsw, Value.category, List.filter, List.take, List.drop, List.reverse, List.reverseAux, List.cons_append, List.nil_append, Option.toList, Int.toNat, Int.reduceToNat, if_pos, if_neg, reduceIte, ↓reduceIte, Nat.reduceAdd, Nat.reduceEqDiff, Nat.reduceBEq, beq_self_eq_true, Bool.not_true, Bool.not_false, Bool.and_true, Bool.and_false, Bool.true_and, Bool.false_and, gI_sI, gI_sL, gI_sA, gI_sM, gL_sI, gL_sL, gL_sA, gL_sM, aI_sI, aI_sL, aI_sA, aI_sM, aL_sI, aL_sL, aL_sA, aL_sM, Bmethod_0, Bmethod_8, Bmethod_19, Bmethod_24, Bmethod_41, Bmethod_43, Bmethod_56, Bmethod_61, Bmethod_70, Bmethod_80, Bmethod_141, Bmethod_150, Bmethod_152, Bmethod_161, Bmethod_165, Bmethod_166, Bmethod_168, Bmethod_173, Bmethod_182, Bmethod_184, Bmethod_197, Bmethod_204, Bmethod_206, Bmethod_215, Bmethod_217, Bmethod_246, Bmethod_257, Bmethod_259, Bmethod_266, Bmethod_273, Bmethod_275, oi_0, oi_1, oi_10, oi_123, oi_3, oi_40, oi_41, oi_44, oi_5, oi_m2, Pu_cant, Pj_isSign, Pj_isType, Pj_isWord, Pj_open, Pj_param, Pj_piece, Pj_take, Pu_thing, Pj_want, Pu_wrong]; try dsimp only
          try simp only [hR3.e2, hR3.e14, hR3.e15, hR3.e17, hR3.e18, hR3.e36, hR3.e42, hR3.e49, hR3.a3, hR3.a6, hR3.a51, hR3.a19, hR3.hp]
          refine ⟨fun h11 => ⟨(by exact h11), ?_⟩, fun h11 => ⟨(by exact h11), ?_⟩⟩
          · exact hW _ 80 [(0, .ref 1000), (1, .int (aI σ 6 (gI σ 14).toNatClampNeg))] [(0, .ref 1000), (1, .int (aI σ 6 (gI σ 14).toNatClampNeg))] _ _ _ _ _ _ (by simp [rdl, rky]) (by simp [rdl, rky]) (t80 _ _ _ _ (by (repeat (first | exact hR3 | refine Rj.i ?_ rfl | refine Rj.a ?_ rfl | refine Rj.m ?_ | refine Rj.s ?_ (by decide) | refine Rj.o1 ?_ (by first | lia | (dsimp only [Nat.beq, gI_sI, gI_sL, gI_sA, gI_sM, gL_sI, gL_sL, gL_sA, gL_sM, aI_sI, aI_sL, aI_sA, aI_sM, aL_sI, aL_sL, aL_sA, aL_sM]; lia)) | refine Rj.o2 ?_ | refine Rj.f1 ?_ (by first | lia | (dsimp only [Nat.beq, gI_sI, gI_sL, gI_sA, gI_sM, gL_sI, gL_sL, gL_sA, gL_sM, aI_sI, aI_sL, aI_sA, aI_sM, aL_sI, aL_sL, aL_sA, aL_sM]; lia)) | refine Rj.f2 ?_ | refine Rj.fs ?_))) (by lia))
          · refine hB _ _ _ _ _ _ _ _ (fun m12 hm12 => ?_)
            dsimp only [jgo, jwp, jst, jct, rfd, Bmethod, Nat.beq, lv_args, rlk, rs1, rs2, rdl, rky, rcd, rno, rsw, Value.category, List.filter, List.take, List.drop, List.reverse, List.reverseAux, List.cons_append, List.nil_append, Option.toList, Int.toNat, Int.reduceToNat, if_pos, if_neg, reduceIte, ↓reduceIte, Nat.reduceAdd, Nat.reduceEqDiff, Nat.reduceBEq, beq_self_eq_true, Bool.not_true, Bool.not_false, Bool.and_true, Bool.and_false, Bool.true_and, Bool.false_and, gI_sI, gI_sL, gI_sA, gI_sM, gL_sI, gL_sL, gL_sA, gL_sM, aI_sI, aI_sL, aI_sA, aI_sM, aL_sI, aL_sL, aL_sA, aL_sM, Bmethod_0, Bmethod_8, Bmethod_19, Bmethod_24, Bmethod_41, Bmethod_43, Bmethod_56, Bmethod_61, Bmethod_70, Bmethod_80, Bmethod_141, Bmethod_150, Bmethod_152, Bmethod_161, Bmethod_165, Bmethod_166, Bmethod_168, Bmethod_173, Bmethod_182, Bmethod_184, Bmethod_197, Bmethod_204, Bmethod_206, Bmethod_215, Bmethod_217, Bmethod_246, Bmethod_257, Bmethod_259, Bmethod_266, Bmethod_273, Bmethod_275, oi_0, oi_1, oi_10, oi_123, oi_3, oi_40, oi_41, oi_44, oi_5, oi_m2, Pu_cant, Pj_isSign, Pj_isType, Pj_isWord, Pj_open, Pj_param, Pj_piece, Pj_take, Pu_thing, Pj_want, Pu_wrong]; try dsimp only
            try simp only [hR3.e2, hR3.e14, hR3.e15, hR3.e17, hR3.e18, hR3.e36, hR3.e42, hR3.e49, hR3.a3, hR3.a6, hR3.a51, hR3.a19, hR3.hp]
            refine ⟨⟨trivial, trivial⟩, fun w13 τ13 w13' τ13' hq13 => ?_⟩
            obtain ⟨rfl, rfl⟩ := hq13
            dsimp only [Option.toList, List.cons_append, List.nil_append, Nat.beq, gI_sI, gI_sL, gI_sA, gI_sM, gL_sI, gL_sL, gL_sA, gL_sM, aI_sI, aI_sL, aI_sA, aI_sM, aL_sI, aL_sL, aL_sA, aL_sM]
            try simp only [hR3.e2, hR3.e14, hR3.e15, hR3.e17, hR3.e18, hR3.e36, hR3.e42, hR3.e49, hR3.a3, hR3.a6, hR3.a51, hR3.a19, hR3.hp]
            unfold Qj_method
            try dsimp only
            exact ⟨_, rfl, rfl, Or.inl rfl⟩
        · refine hB _ _ _ _ _ _ _ _ (fun m14 hm14 => ?_)
          dsimp only [jgo, jwp, jst, jct, rfd, Bmethod, Nat.beq, lv_args, rlk, rs1, rs2, rdl, rky, rcd, rno, rsw, Value.category, List.filter, List.take, List.drop, List.reverse, List.reverseAux, List.cons_append, List.nil_append, Option.toList, Int.toNat, Int.reduceToNat, if_pos, if_neg, reduceIte, ↓reduceIte, Nat.reduceAdd, Nat.reduceEqDiff, Nat.reduceBEq, beq_self_eq_true, Bool.not_true, Bool.not_false, Bool.and_true, Bool.and_false, Bool.true_and, Bool.false_and, gI_sI, gI_sL, gI_sA, gI_sM, gL_sI, gL_sL, gL_sA, gL_sM, aI_sI, aI_sL, aI_sA, aI_sM, aL_sI, aL_sL, aL_sA, aL_sM, Bmethod_0, Bmethod_8, Bmethod_19, Bmethod_24, Bmethod_41, Bmethod_43, Bmethod_56, Bmethod_61, Bmethod_70, Bmethod_80, Bmethod_141, Bmethod_150, Bmethod_152, Bmethod_161, Bmethod_165, Bmethod_166, Bmethod_168, Bmethod_173, Bmethod_182, Bmethod_184, Bmethod_197, Bmethod_204, Bmethod_206, Bmethod_215, Bmethod_217, Bmethod_246, Bmethod_257, Bmethod_259, Bmethod_266, Bmethod_273, Bmethod_275, oi_0, oi_1, oi_10, oi_123, oi_3, oi_40, oi_41, oi_44, oi_5, oi_m2, Pu_cant, Pj_isSign, Pj_isType, Pj_isWord, Pj_open, Pj_param, Pj_piece, Pj_take, Pu_thing, Pj_want, Pu_wrong]; try dsimp only
          try simp only [hR3.e2, hR3.e14, hR3.e15, hR3.e17, hR3.e18, hR3.e36, hR3.e42, hR3.e49, hR3.a3, hR3.a6, hR3.a51, hR3.a19, hR3.hp]
          refine ⟨⟨trivial, trivial⟩, fun w15 τ15 w15' τ15' hq15 => ?_⟩
          obtain ⟨rfl, rfl⟩ := hq15
          dsimp only [Option.toList, List.cons_append, List.nil_append, Nat.beq, gI_sI, gI_sL, gI_sA, gI_sM, gL_sI, gL_sL, gL_sA, gL_sM, aI_sI, aI_sL, aI_sA, aI_sM, aL_sI, aL_sL, aL_sA, aL_sM]
          try simp only [hR3.e2, hR3.e14, hR3.e15, hR3.e17, hR3.e18, hR3.e36, hR3.e42, hR3.e49, hR3.a3, hR3.a6, hR3.a51, hR3.a19, hR3.hp]
          unfold Qj_method
          try dsimp only
          exact ⟨_, rfl, rfl, Or.inl rfl⟩
    intro n0
    refine hB _ _ _ _ _ _ _ _ (fun m1 hm1 => ?_)
    dsimp only [jgo, jwp, jst, jct, rfd, Bmethod, Nat.beq, lv_args, rlk, rs1, rs2, rdl, rky, rcd, rno, rsw, Value.category, List.filter, List.take, List.drop, List.reverse, List.reverseAux, List.cons_append, List.nil_append, Option.toList, Int.toNat, Int.reduceToNat, if_pos, if_neg, reduceIte, ↓reduceIte, Nat.reduceAdd, Nat.reduceEqDiff, Nat.reduceBEq, beq_self_eq_true, Bool.not_true, Bool.not_false, Bool.and_true, Bool.and_false, Bool.true_and, Bool.false_and, gI_sI, gI_sL, gI_sA, gI_sM, gL_sI, gL_sL, gL_sA, gL_sM, aI_sI, aI_sL, aI_sA, aI_sM, aL_sI, aL_sL, aL_sA, aL_sM, Bmethod_0, Bmethod_8, Bmethod_19, Bmethod_24, Bmethod_41, Bmethod_43, Bmethod_56, Bmethod_61, Bmethod_70, Bmethod_80, Bmethod_141, Bmethod_150, Bmethod_152, Bmethod_161, Bmethod_165, Bmethod_166, Bmethod_168, Bmethod_173, Bmethod_182, Bmethod_184, Bmethod_197, Bmethod_204, Bmethod_206, Bmethod_215, Bmethod_217, Bmethod_246, Bmethod_257, Bmethod_259, Bmethod_266, Bmethod_273, Bmethod_275, oi_0, oi_1, oi_10, oi_123, oi_3, oi_40, oi_41, oi_44, oi_5, oi_m2, Pu_cant, Pj_isSign, Pj_isType, Pj_isWord, Pj_open, Pj_param, Pj_piece, Pj_take, Pu_thing, Pj_want, Pu_wrong]; try dsimp only
    try simp only [hR.e2, hR.e14, hR.e15, hR.e17, hR.e18, hR.e36, hR.e42, hR.e49, hR.a3, hR.a6, hR.a51, hR.a19, hR.hp]
    refine ⟨⟨(Rj.w (md := 0) (by (repeat (first | exact hR | refine Rj.i ?_ rfl | refine Rj.a ?_ rfl | refine Rj.m ?_ | refine Rj.s ?_ (by decide) | refine Rj.o1 ?_ (by first | lia | (dsimp only [Nat.beq, gI_sI, gI_sL, gI_sA, gI_sM, gL_sI, gL_sL, gL_sA, gL_sM, aI_sI, aI_sL, aI_sA, aI_sM, aL_sI, aL_sL, aL_sA, aL_sM]; lia)) | refine Rj.o2 ?_ | refine Rj.f1 ?_ (by first | lia | (dsimp only [Nat.beq, gI_sI, gI_sL, gI_sA, gI_sM, gL_sI, gL_sL, gL_sA, gL_sM, aI_sI, aI_sL, aI_sA, aI_sM, aL_sI, aL_sL, aL_sA, aL_sM]; lia)) | refine Rj.f2 ?_ | refine Rj.fs ?_)))), (by first | exact True.intro | rfl)⟩, fun w2 τ2 w2' τ2' hq2 => ?_⟩
    obtain ⟨b2, rfl, rfl, rfl, rfl, hb2⟩ := hq2
    rcases hb2 with rfl | ⟨rfl, hf2⟩
    · dsimp only [Option.toList, List.cons_append, List.nil_append, Nat.beq, gI_sI, gI_sL, gI_sA, gI_sM, gL_sI, gL_sL, gL_sA, gL_sM, aI_sI, aI_sL, aI_sA, aI_sM, aL_sI, aL_sL, aL_sA, aL_sM]
      try simp only [hR.e2, hR.e14, hR.e15, hR.e17, hR.e18, hR.e36, hR.e42, hR.e49, hR.a3, hR.a6, hR.a51, hR.a19, hR.hp]
      refine ⟨fun h3 => absurd h3 (by decide), fun h3 => ⟨(by exact h3), ?_⟩⟩
      clear h3
      refine hB _ _ _ _ _ _ _ _ (fun m4 hm4 => ?_)
      dsimp only [jgo, jwp, jst, jct, rfd, Bmethod, Nat.beq, lv_args, rlk, rs1, rs2, rdl, rky, rcd, rno, rsw, Value.category, List.filter, List.take, List.drop, List.reverse, List.reverseAux, List.cons_append, List.nil_append, Option.toList, Int.toNat, Int.reduceToNat, if_pos, if_neg, reduceIte, ↓reduceIte, Nat.reduceAdd, Nat.reduceEqDiff, Nat.reduceBEq, beq_self_eq_true, Bool.not_true, Bool.not_false, Bool.and_true, Bool.and_false, Bool.true_and, Bool.false_and, gI_sI, gI_sL, gI_sA, gI_sM, gL_sI, gL_sL, gL_sA, gL_sM, aI_sI, aI_sL, aI_sA, aI_sM, aL_sI, aL_sL, aL_sA, aL_sM, Bmethod_0, Bmethod_8, Bmethod_19, Bmethod_24, Bmethod_41, Bmethod_43, Bmethod_56, Bmethod_61, Bmethod_70, Bmethod_80, Bmethod_141, Bmethod_150, Bmethod_152, Bmethod_161, Bmethod_165, Bmethod_166, Bmethod_168, Bmethod_173, Bmethod_182, Bmethod_184, Bmethod_197, Bmethod_204, Bmethod_206, Bmethod_215, Bmethod_217, Bmethod_246, Bmethod_257, Bmethod_259, Bmethod_266, Bmethod_273, Bmethod_275, oi_0, oi_1, oi_10, oi_123, oi_3, oi_40, oi_41, oi_44, oi_5, oi_m2, Pu_cant, Pj_isSign, Pj_isType, Pj_isWord, Pj_open, Pj_param, Pj_piece, Pj_take, Pu_thing, Pj_want, Pu_wrong]; try dsimp only
      try simp only [hR.e2, hR.e14, hR.e15, hR.e17, hR.e18, hR.e36, hR.e42, hR.e49, hR.a3, hR.a6, hR.a51, hR.a19, hR.hp]
      refine ⟨⟨(Rj.w (md := 0) (by (repeat (first | exact hR | refine Rj.i ?_ rfl | refine Rj.a ?_ rfl | refine Rj.m ?_ | refine Rj.s ?_ (by decide) | refine Rj.o1 ?_ (by first | lia | (dsimp only [Nat.beq, gI_sI, gI_sL, gI_sA, gI_sM, gL_sI, gL_sL, gL_sA, gL_sM, aI_sI, aI_sL, aI_sA, aI_sM, aL_sI, aL_sL, aL_sA, aL_sM]; lia)) | refine Rj.o2 ?_ | refine Rj.f1 ?_ (by first | lia | (dsimp only [Nat.beq, gI_sI, gI_sL, gI_sA, gI_sM, gL_sI, gL_sL, gL_sA, gL_sM, aI_sI, aI_sL, aI_sA, aI_sM, aL_sI, aL_sL, aL_sA, aL_sM]; lia)) | refine Rj.f2 ?_ | refine Rj.fs ?_)))), (by first | exact True.intro | rfl), (by first | exact hR.hp | trivial)⟩, fun w5 τ5 w5' τ5' hq5 => ?_⟩
      obtain ⟨b5, rfl, rfl, rfl, rfl, hb5⟩ := hq5
      rcases hb5 with rfl | ⟨rfl, hf5⟩
      · dsimp only [Option.toList, List.cons_append, List.nil_append, Nat.beq, gI_sI, gI_sL, gI_sA, gI_sM, gL_sI, gL_sL, gL_sA, gL_sM, aI_sI, aI_sL, aI_sA, aI_sM, aL_sI, aL_sL, aL_sA, aL_sM]
        try simp only [hR.e2, hR.e14, hR.e15, hR.e17, hR.e18, hR.e36, hR.e42, hR.e49, hR.a3, hR.a6, hR.a51, hR.a19, hR.hp]
        refine ⟨fun h6 => absurd h6 (by decide), fun h6 => ⟨(by exact h6), ?_⟩⟩
        clear h6
        refine hB _ _ _ _ _ _ _ _ (fun m7 hm7 => ?_)
        dsimp only [jgo, jwp, jst, jct, rfd, Bmethod, Nat.beq, lv_args, rlk, rs1, rs2, rdl, rky, rcd, rno, rsw, Value.category, List.filter, List.take, List.drop, List.reverse, List.reverseAux, List.cons_append, List.nil_append, Option.toList, Int.toNat, Int.reduceToNat, if_pos, if_neg, reduceIte, ↓reduceIte, Nat.reduceAdd, Nat.reduceEqDiff, Nat.reduceBEq, beq_self_eq_true, Bool.not_true, Bool.not_false, Bool.and_true, Bool.and_false, Bool.true_and, Bool.false_and, gI_sI, gI_sL, gI_sA, gI_sM, gL_sI, gL_sL, gL_sA, gL_sM, aI_sI, aI_sL, aI_sA, aI_sM, aL_sI, aL_sL, aL_sA, aL_sM, Bmethod_0, Bmethod_8, Bmethod_19, Bmethod_24, Bmethod_41, Bmethod_43, Bmethod_56, Bmethod_61, Bmethod_70, Bmethod_80, Bmethod_141, Bmethod_150, Bmethod_152, Bmethod_161, Bmethod_165, Bmethod_166, Bmethod_168, Bmethod_173, Bmethod_182, Bmethod_184, Bmethod_197, Bmethod_204, Bmethod_206, Bmethod_215, Bmethod_217, Bmethod_246, Bmethod_257, Bmethod_259, Bmethod_266, Bmethod_273, Bmethod_275, oi_0, oi_1, oi_10, oi_123, oi_3, oi_40, oi_41, oi_44, oi_5, oi_m2, Pu_cant, Pj_isSign, Pj_isType, Pj_isWord, Pj_open, Pj_param, Pj_piece, Pj_take, Pu_thing, Pj_want, Pu_wrong]; try dsimp only
        try simp only [hR.e2, hR.e14, hR.e15, hR.e17, hR.e18, hR.e36, hR.e42, hR.e49, hR.a3, hR.a6, hR.a51, hR.a19, hR.hp]
        refine ⟨⟨trivial, trivial⟩, fun w8 τ8 w8' τ8' hq8 => ?_⟩
        obtain ⟨rfl, rfl⟩ := hq8
        dsimp only [Option.toList, List.cons_append, List.nil_append, Nat.beq, gI_sI, gI_sL, gI_sA, gI_sM, gL_sI, gL_sL, gL_sA, gL_sM, aI_sI, aI_sL, aI_sA, aI_sM, aL_sI, aL_sL, aL_sA, aL_sM]
        try simp only [hR.e2, hR.e14, hR.e15, hR.e17, hR.e18, hR.e36, hR.e42, hR.e49, hR.a3, hR.a6, hR.a51, hR.a19, hR.hp]
        unfold Qj_method
        try dsimp only
        exact ⟨_, rfl, rfl, Or.inl rfl⟩
      · dsimp only [Option.toList, List.cons_append, List.nil_append, Nat.beq, gI_sI, gI_sL, gI_sA, gI_sM, gL_sI, gL_sL, gL_sA, gL_sM, aI_sI, aI_sL, aI_sA, aI_sM, aL_sI, aL_sL, aL_sA, aL_sM]
        try dsimp only [Nat.beq, gI_sI, gI_sL, gI_sA, gI_sM, gL_sI, gL_sL, gL_sA, gL_sM, aI_sI, aI_sL, aI_sA, aI_sM, aL_sI, aL_sL, aL_sA, aL_sM] at hf5
        try simp only [hR.e2, hR.e14, hR.e15, hR.e17, hR.e18, hR.e36, hR.e42, hR.e49, hR.a3, hR.a6, hR.a51, hR.a19, hR.hp]
        refine ⟨fun h9 => ⟨(by exact h9), ?_⟩, fun h9 => absurd h9 (by decide)⟩
        clear h9
        exact hW _ 24 [(0, .ref 1000)] [(0, .ref 1000)] _ _ _ _ _ _ (by simp [rdl, rky]) (by simp [rdl, rky]) (t24 _ (by lia))
    · dsimp only [Option.toList, List.cons_append, List.nil_append, Nat.beq, gI_sI, gI_sL, gI_sA, gI_sM, gL_sI, gL_sL, gL_sA, gL_sM, aI_sI, aI_sL, aI_sA, aI_sM, aL_sI, aL_sL, aL_sA, aL_sM]
      try dsimp only [Nat.beq, gI_sI, gI_sL, gI_sA, gI_sM, gL_sI, gL_sL, gL_sA, gL_sM, aI_sI, aI_sL, aI_sA, aI_sM, aL_sI, aL_sL, aL_sA, aL_sM] at hf2
      try simp only [hR.e2, hR.e14, hR.e15, hR.e17, hR.e18, hR.e36, hR.e42, hR.e49, hR.a3, hR.a6, hR.a51, hR.a19, hR.hp]
      refine ⟨fun h10 => ⟨(by exact h10), ?_⟩, fun h10 => absurd h10 (by decide)⟩
      clear h10
      exact hW _ 24 [(0, .ref 1000)] [(0, .ref 1000)] _ _ _ _ _ _ (by simp [rdl, rky]) (by simp [rdl, rky]) (t24 _ (by lia))
  next => exact hP.elim
/-- what two cuttings of one text agree in -/
def Tj (σ ρ : RS) : Prop := gI ρ 2 = gI σ 2 ∧ 0 < gI σ 2 ∧ (∀ i, i < nT (gI σ 2) → aI ρ 3 i = aI σ 3 i ∧ aI ρ 6 i = aI σ 6 i ∧ (aI σ 3 i = 2 → aI ρ 10 i = aI σ 10 i)) ∧ ∀ i, i < nT (gI σ 2) → ¬ aI σ 3 i = 0 → ¬ aI σ 3 i = 6 → i + 1 < nT (gI σ 2) ∨ 2500 ≤ i
theorem Rj.z {σ ρ : RS} (h : Tj σ ρ) : Rj 0 (zz σ) (zz ρ) := by
  refine ⟨fun k hk => ?_, h.2.2.1, fun q => absurd q (by decide), fun q => absurd q (by decide), fun i hi => absurd hi (Nat.not_lt_zero _), fun i hi => absurd hi (Nat.not_lt_zero _), ⟨Int32.le_refl _, h.2.1⟩, h.2.2.2⟩
  unfold rjI at hk
  simp only [Bool.or_eq_true, Bool.and_eq_true, beq_iff_eq] at hk
  rcases hk with ((((((((hk | hk) | hk) | hk) | hk) | hk) | hk) | hk) | hk) | hk
  · subst hk; exact h.1
  all_goals first | (subst hk; rfl) | exact absurd hk.1 (by decide)
def Pj_parse : JPr := fun A1 A2 σ ρ => match A1, A2 with
  | [], [] => Tj σ ρ
  | _, _ => False
def Qj_parse : JQr := fun A1 A2 σ ρ w τ w' τ' => match A1, A2 with
  | [], [] => ∃ b : Int32, w = some (.int b) ∧ w' = some (.int b)
  | _, _ => False
set_option maxRecDepth 100000 in
set_option maxHeartbeats 4000000 in
theorem j_parse : JMet 37 Pj_parse Qj_parse := by
  refine JMet.by Bparse [(38, Pj_method, Qj_method)] rfl (jcc j_method jc0) ?_
  intro A1 A2 σ ρ hP K hB hW
  unfold Pj_parse at hP
  split at hP
  next =>
    have hT := hP
    have loop : ∀ (n : Nat) (X Y : RS), Rj 0 X Y → K n 35 [(0, .ref 1000)] [(0, .ref 1000)] [] [] X Y := by
      intro n
      induction n using Nat.strongRecOn with
      | ind n loop =>
        intro X Y hR
        refine hB _ _ _ _ _ _ _ _ (fun m1 hm1 => ?_)
        dsimp only [jgo, jwp, jst, jct, rfd, Bparse, Nat.beq, lv_args, rlk, rs1, rs2, rdl, rky, rcd, rno, rsw, Value.category, List.filter, List.take, List.drop, List.reverse, List.reverseAux, List.cons_append, List.nil_append, Option.toList, Int.toNat, Int.reduceToNat, if_pos, if_neg, reduceIte, ↓reduceIte, Nat.reduceAdd, Nat.reduceEqDiff, Nat.reduceBEq, beq_self_eq_true, Bool.not_true, Bool.not_false, Bool.and_true, Bool.and_false, Bool.true_and, Bool.false_and, gI_sI, gI_sL, gI_sA, gI_sM, gL_sI, gL_sL, gL_sA, gL_sM, aI_sI, aI_sL, aI_sA, aI_sM, aL_sI, aL_sL, aL_sA, aL_sM, Bparse_0, Bparse_35, Bparse_47, Bparse_54, Bparse_56, oi_0, oi_1, Pj_method]; try dsimp only
        try simp only [hR.e2, hR.e14, hR.e15, hR.e17, hR.e18, hR.e36, hR.e42, hR.e49, hR.a3, hR.a6, hR.a51, hR.a19, hR.hp]
        intro p2 q2
        try simp only [hR.e2, hR.e14, hR.e15, hR.e17, hR.e18, hR.e36, hR.e42, hR.e49, hR.a3, hR.a6, hR.a51, hR.a19, hR.hp]
        refine ⟨fun h3 => ⟨(by exact h3), ?_⟩, fun h3 => ⟨(by exact h3), ?_⟩⟩
        · refine hB _ _ _ _ _ _ _ _ (fun m4 hm4 => ?_)
          dsimp only [jgo, jwp, jst, jct, rfd, Bparse, Nat.beq, lv_args, rlk, rs1, rs2, rdl, rky, rcd, rno, rsw, Value.category, List.filter, List.take, List.drop, List.reverse, List.reverseAux, List.cons_append, List.nil_append, Option.toList, Int.toNat, Int.reduceToNat, if_pos, if_neg, reduceIte, ↓reduceIte, Nat.reduceAdd, Nat.reduceEqDiff, Nat.reduceBEq, beq_self_eq_true, Bool.not_true, Bool.not_false, Bool.and_true, Bool.and_false, Bool.true_and, Bool.false_and, gI_sI, gI_sL, gI_sA, gI_sM, gL_sI, gL_sL, gL_sA, gL_sM, aI_sI, aI_sL, aI_sA, aI_sM, aL_sI, aL_sL, aL_sA, aL_sM, Bparse_0, Bparse_35, Bparse_47, Bparse_54, Bparse_56, oi_0, oi_1, Pj_method]; try dsimp only
          try simp only [hR.e2, hR.e14, hR.e15, hR.e17, hR.e18, hR.e36, hR.e42, hR.e49, hR.a3, hR.a6, hR.a51, hR.a19, hR.hp]
          unfold Qj_parse
          try dsimp only
          exact ⟨_, rfl, rfl⟩
        · refine hB _ _ _ _ _ _ _ _ (fun m5 hm5 => ?_)
          dsimp only [jgo, jwp, jst, jct, rfd, Bparse, Nat.beq, lv_args, rlk, rs1, rs2, rdl, rky, rcd, rno, rsw, Value.category, List.filter, List.take, List.drop, List.reverse, List.reverseAux, List.cons_append, List.nil_append, Option.toList, Int.toNat, Int.reduceToNat, if_pos, if_neg, reduceIte, ↓reduceIte, Nat.reduceAdd, Nat.reduceEqDiff, Nat.reduceBEq, beq_self_eq_true, Bool.not_true, Bool.not_false, Bool.and_true, Bool.and_false, Bool.true_and, Bool.false_and, gI_sI, gI_sL, gI_sA, gI_sM, gL_sI, gL_sL, gL_sA, gL_sM, aI_sI, aI_sL, aI_sA, aI_sM, aL_sI, aL_sL, aL_sA, aL_sM, Bparse_0, Bparse_35, Bparse_47, Bparse_54, Bparse_56, oi_0, oi_1, Pj_method]; try dsimp only
          try simp only [hR.e2, hR.e14, hR.e15, hR.e17, hR.e18, hR.e36, hR.e42, hR.e49, hR.a3, hR.a6, hR.a51, hR.a19, hR.hp]
          refine ⟨(by (repeat (first | exact hR | refine Rj.i ?_ rfl | refine Rj.a ?_ rfl | refine Rj.m ?_ | refine Rj.s ?_ (by decide) | refine Rj.o1 ?_ (by first | lia | (dsimp only [Nat.beq, gI_sI, gI_sL, gI_sA, gI_sM, gL_sI, gL_sL, gL_sA, gL_sM, aI_sI, aI_sL, aI_sA, aI_sM, aL_sI, aL_sL, aL_sA, aL_sM]; lia)) | refine Rj.o2 ?_ | refine Rj.f1 ?_ (by first | lia | (dsimp only [Nat.beq, gI_sI, gI_sL, gI_sA, gI_sM, gL_sI, gL_sL, gL_sA, gL_sM, aI_sI, aI_sL, aI_sA, aI_sM, aL_sI, aL_sL, aL_sA, aL_sM]; lia)) | refine Rj.f2 ?_ | refine Rj.fs ?_))), fun w6 τ6 w6' τ6' hq6 => ?_⟩
          obtain ⟨b6, rfl, rfl, hb6⟩ := hq6
          rcases hb6 with rfl | ⟨rfl, hR6⟩
          · dsimp only [Option.toList, List.cons_append, List.nil_append, Nat.beq, gI_sI, gI_sL, gI_sA, gI_sM, gL_sI, gL_sL, gL_sA, gL_sM, aI_sI, aI_sL, aI_sA, aI_sM, aL_sI, aL_sL, aL_sA, aL_sM]
            try simp only [hR.e2, hR.e14, hR.e15, hR.e17, hR.e18, hR.e36, hR.e42, hR.e49, hR.a3, hR.a6, hR.a51, hR.a19, hR.hp]
            refine ⟨fun h7 => absurd h7 (by decide), fun h7 => ⟨(by exact h7), ?_⟩⟩
            clear h7
            refine hB _ _ _ _ _ _ _ _ (fun m8 hm8 => ?_)
            dsimp only [jgo, jwp, jst, jct, rfd, Bparse, Nat.beq, lv_args, rlk, rs1, rs2, rdl, rky, rcd, rno, rsw, Value.category, List.filter, List.take, List.drop, List.reverse, List.reverseAux, List.cons_append, List.nil_append, Option.toList, Int.toNat, Int.reduceToNat, if_pos, if_neg, reduceIte, ↓reduceIte, Nat.reduceAdd, Nat.reduceEqDiff, Nat.reduceBEq, beq_self_eq_true, Bool.not_true, Bool.not_false, Bool.and_true, Bool.and_false, Bool.true_and, Bool.false_and, gI_sI, gI_sL, gI_sA, gI_sM, gL_sI, gL_sL, gL_sA, gL_sM, aI_sI, aI_sL, aI_sA, aI_sM, aL_sI, aL_sL, aL_sA, aL_sM, Bparse_0, Bparse_35, Bparse_47, Bparse_54, Bparse_56, oi_0, oi_1, Pj_method]; try dsimp only
            try simp only [hR.e2, hR.e14, hR.e15, hR.e17, hR.e18, hR.e36, hR.e42, hR.e49, hR.a3, hR.a6, hR.a51, hR.a19, hR.hp]
            unfold Qj_parse
            try dsimp only
            exact ⟨_, rfl, rfl⟩
          · dsimp only [Option.toList, List.cons_append, List.nil_append, Nat.beq, gI_sI, gI_sL, gI_sA, gI_sM, gL_sI, gL_sL, gL_sA, gL_sM, aI_sI, aI_sL, aI_sA, aI_sM, aL_sI, aL_sL, aL_sA, aL_sM]
            try simp only [hR6.e2, hR6.e14, hR6.e15, hR6.e17, hR6.e18, hR6.e36, hR6.e42, hR6.e49, hR6.a3, hR6.a6, hR6.a51, hR6.a19, hR6.hp]
            refine ⟨fun h9 => ⟨(by exact h9), ?_⟩, fun h9 => absurd h9 (by decide)⟩
            clear h9
            exact hW _ 35 [(0, .ref 1000)] [(0, .ref 1000)] _ _ _ _ _ _ (by simp [rdl, rky]) (by simp [rdl, rky]) (loop _ (by omega) _ _ (by (repeat (first | exact hR6 | refine Rj.i ?_ rfl | refine Rj.a ?_ rfl | refine Rj.m ?_ | refine Rj.s ?_ (by decide) | refine Rj.o1 ?_ (by first | lia | (dsimp only [Nat.beq, gI_sI, gI_sL, gI_sA, gI_sM, gL_sI, gL_sL, gL_sA, gL_sM, aI_sI, aI_sL, aI_sA, aI_sM, aL_sI, aL_sL, aL_sA, aL_sM]; lia)) | refine Rj.o2 ?_ | refine Rj.f1 ?_ (by first | lia | (dsimp only [Nat.beq, gI_sI, gI_sL, gI_sA, gI_sM, gL_sI, gL_sL, gL_sA, gL_sM, aI_sI, aI_sL, aI_sA, aI_sM, aL_sI, aL_sL, aL_sA, aL_sM]; lia)) | refine Rj.f2 ?_ | refine Rj.fs ?_))))
    intro n0
    refine hB _ _ _ _ _ _ _ _ (fun m1 hm1 => ?_)
    dsimp only [jgo, jwp, jst, jct, rfd, Bparse, Nat.beq, lv_args, rlk, rs1, rs2, rdl, rky, rcd, rno, rsw, Value.category, List.filter, List.take, List.drop, List.reverse, List.reverseAux, List.cons_append, List.nil_append, Option.toList, Int.toNat, Int.reduceToNat, if_pos, if_neg, reduceIte, ↓reduceIte, Nat.reduceAdd, Nat.reduceEqDiff, Nat.reduceBEq, beq_self_eq_true, Bool.not_true, Bool.not_false, Bool.and_true, Bool.and_false, Bool.true_and, Bool.false_and, gI_sI, gI_sL, gI_sA, gI_sM, gL_sI, gL_sL, gL_sA, gL_sM, aI_sI, aI_sL, aI_sA, aI_sM, aL_sI, aL_sL, aL_sA, aL_sM, Bparse_0, Bparse_35, Bparse_47, Bparse_54, Bparse_56, oi_0, oi_1, Pj_method]; try dsimp only
    exact loop _ _ _ (Rj.z hT)
  next => exact hP.elim
