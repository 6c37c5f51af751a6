def P_told : RP := fun As σ => match As with
  | [] => ∃ s k j, PI σ [] s k j ∧ k ≤ 19 ∧ ¬ zh s.1 ∧ 0 < (gI σ 62) ∧ (aI σ 63 (gI σ 62 - 1).toNatClampNeg = 0 ∨ aI σ 63 (gI σ 62 - 1).toNatClampNeg = 1 ∨ aI σ 63 (gI σ 62 - 1).toNatClampNeg = 8 ∨ 9 ≤ aI σ 63 (gI σ 62 - 1).toNatClampNeg)
  | _ => False
def Q_told : RQ := fun As σ w τ => match As with
  | [] => ∃ r : Int32, w = some (.int r) ∧ ((r = 0 ∧ Fp σ τ) ∨ (r = 1 ∧ Fp σ τ ∧ (∀ s k j, PI σ [] s k j → k ≤ 19 → ¬ zh s.1 → PI τ [] s k j) ∧ (gI σ 14) < (gI τ 14) ∧ Ff σ τ))
  | _ => False
set_option maxRecDepth 100000 in
set_option maxHeartbeats 4000000 in
theorem b_told : Bod Btold [(48, P_declaration, Q_declaration), (20, P_emit, Q_emit), (41, P_scope, Q_scope), (18, P_want, Q_want)] P_told Q_told := by
  · intro As σ hP G hB hW
    unfold P_told at hP
    split at hP
    next => 
      unfold Q_told at hB
      dsimp only at hB
      obtain ⟨ss, kk, jj, hPI, hkk, hnz, hfr, hfs⟩ := hP
      have nn := hPI.nums
      have h1 := hPI.step (gI σ 14) nn.1 (by omega) hnz
      apply hB
      dsimp only [rgo, rfd, Btold, Nat.beq, rwp, rst, lv_args, rlk, rs1, rs2, rdl, rky, rct, rcs, rcd, rno, rsw, Value.category, List.filter, List.take, List.drop, List.reverse, List.reverseAux, List.cons_append, List.nil_append, Option.toList, Int.toNat, Int.reduceToNat, if_pos, if_neg, reduceIte, ↓reduceIte, Nat.reduceAdd, Nat.reduceEqDiff, Nat.reduceBEq, beq_self_eq_true, Bool.not_true, Bool.not_false, Bool.and_true, Bool.and_false, Bool.true_and, Bool.false_and, gI_sI, gI_sL, gI_sA, gI_sM, gL_sI, gL_sL, gL_sA, gL_sM, aI_sI, aI_sL, aI_sA, aI_sM, aL_sI, aL_sL, aL_sA, aL_sM, gI_em, gI_emx, gI_pu, gI_wh, Btold_0, Btold_23, Btold_32, Btold_34, oi_0, oi_1, oi_20, oi_45, oi_59, P_declaration, P_emit, P_scope, P_want]; try dsimp only
      refine ⟨rfl, rfl, (by decide), (⟨by lia, by lia⟩), fun w1 τ1 hq1 => ?_⟩
      obtain ⟨rfl, rfl⟩ := hq1
      dsimp only [Option.toList, List.cons_append, List.nil_append, Nat.beq, gI_sI, gI_sL, gI_sA, gI_sM, gL_sI, gL_sL, gL_sA, gL_sM, aI_sI, aI_sL, aI_sA, aI_sM, aL_sI, aL_sL, aL_sA, aL_sM, gI_em, gI_emx, gI_pu, gI_wh]
      refine ⟨rfl, (by decide), (⟨⟨by lia, by lia⟩, hfs⟩), fun w2 τ2 hq2 => ?_⟩
      obtain ⟨r2, rfl, rfl⟩ := hq2
      dsimp only [Option.toList, List.cons_append, List.nil_append, Nat.beq, gI_sI, gI_sL, gI_sA, gI_sM, gL_sI, gL_sL, gL_sA, gL_sM, aI_sI, aI_sL, aI_sA, aI_sM, aL_sI, aL_sL, aL_sA, aL_sM, gI_em, gI_emx, gI_pu, gI_wh]
      refine ⟨rfl, (by decide), (⟨_, _, _, h1, by simp [zh]⟩), fun w3 τ3 hq3 => ?_⟩
      obtain ⟨r3, rfl, hq3⟩ := hq3
      rcases hq3 with ⟨rfl, hf3⟩ | ⟨rfl, hf3, hx3, -, hlt3, hff3⟩
      · dsimp only [Option.toList, List.cons_append, List.nil_append, Nat.beq, gI_sI, gI_sL, gI_sA, gI_sM, gL_sI, gL_sL, gL_sA, gL_sM, aI_sI, aI_sL, aI_sA, aI_sM, aL_sI, aL_sL, aL_sA, aL_sM, gI_em, gI_emx, gI_pu, gI_wh]
        refine ⟨fun h4 => ?_, fun h4 => absurd h4 (by decide)⟩
        clear h4
        apply hB
        dsimp only [rgo, rfd, Btold, Nat.beq, rwp, rst, lv_args, rlk, rs1, rs2, rdl, rky, rct, rcs, rcd, rno, rsw, Value.category, List.filter, List.take, List.drop, List.reverse, List.reverseAux, List.cons_append, List.nil_append, Option.toList, Int.toNat, Int.reduceToNat, if_pos, if_neg, reduceIte, ↓reduceIte, Nat.reduceAdd, Nat.reduceEqDiff, Nat.reduceBEq, beq_self_eq_true, Bool.not_true, Bool.not_false, Bool.and_true, Bool.and_false, Bool.true_and, Bool.false_and, gI_sI, gI_sL, gI_sA, gI_sM, gL_sI, gL_sL, gL_sA, gL_sM, aI_sI, aI_sL, aI_sA, aI_sM, aL_sI, aL_sL, aL_sA, aL_sM, gI_em, gI_emx, gI_pu, gI_wh, Btold_0, Btold_23, Btold_32, Btold_34, oi_0, oi_1, oi_20, oi_45, oi_59, P_declaration, P_emit, P_scope, P_want]; try dsimp only
        refine ⟨Or.inl rfl, ?_⟩
        exact ⟨_, rfl, Or.inl ⟨rfl, Fp.tr (by repeat (first | exact Fp.rf | (with_reducible refine Fp.vr ?_ ?_) | refine Fp.a ?_ rfl | refine Fp.i ?_ rfl | refine Fp.y ?_ rfl ⟨by lia, by lia⟩ | exact ⟨by lia, by lia⟩)) hf3⟩⟩
      · dsimp only [Option.toList, List.cons_append, List.nil_append, Nat.beq, gI_sI, gI_sL, gI_sA, gI_sM, gL_sI, gL_sL, gL_sA, gL_sM, aI_sI, aI_sL, aI_sA, aI_sM, aL_sI, aL_sL, aL_sA, aL_sM, gI_em, gI_emx, gI_pu, gI_wh]
        have hlz3 : gI σ 14 < gI τ3 14 := hlt3
        have hpe3 := hx3 _ _ _ h1 (by simp [zh])
        have nne3 := hpe3.nums
        have htk3 := hpe3.tok (c := nT (gI σ 18)) (List.mem_cons_self ..)
        refine ⟨fun h5 => absurd h5 (by decide), fun h5 => ?_⟩
        clear h5
        apply hB
        dsimp only [rgo, rfd, Btold, Nat.beq, rwp, rst, lv_args, rlk, rs1, rs2, rdl, rky, rct, rcs, rcd, rno, rsw, Value.category, List.filter, List.take, List.drop, List.reverse, List.reverseAux, List.cons_append, List.nil_append, Option.toList, Int.toNat, Int.reduceToNat, if_pos, if_neg, reduceIte, ↓reduceIte, Nat.reduceAdd, Nat.reduceEqDiff, Nat.reduceBEq, beq_self_eq_true, Bool.not_true, Bool.not_false, Bool.and_true, Bool.and_false, Bool.true_and, Bool.false_and, gI_sI, gI_sL, gI_sA, gI_sM, gL_sI, gL_sL, gL_sA, gL_sM, aI_sI, aI_sL, aI_sA, aI_sM, aL_sI, aL_sL, aL_sA, aL_sM, gI_em, gI_emx, gI_pu, gI_wh, Btold_0, Btold_23, Btold_32, Btold_34, oi_0, oi_1, oi_20, oi_45, oi_59, P_declaration, P_emit, P_scope, P_want]; try dsimp only
        refine ⟨rfl, (by decide), (⟨by lia, by lia⟩), fun w6 τ6 hq6 => ?_⟩
        obtain ⟨r6, rfl, hq6⟩ := hq6
        rcases hq6 with ⟨rfl, hp6, hw6, rfl⟩ | ⟨rfl, fa6, fb6, rfl⟩
        · dsimp only [Option.toList, List.cons_append, List.nil_append, Nat.beq, gI_sI, gI_sL, gI_sA, gI_sM, gL_sI, gL_sL, gL_sA, gL_sM, aI_sI, aI_sL, aI_sA, aI_sM, aL_sI, aL_sL, aL_sA, aL_sM, gI_em, gI_emx, gI_pu, gI_wh]
          try dsimp only [Option.toList, List.cons_append, List.nil_append, Nat.beq, gI_sI, gI_sL, gI_sA, gI_sM, gL_sI, gL_sL, gL_sA, gL_sM, aI_sI, aI_sL, aI_sA, aI_sM, aL_sI, aL_sL, aL_sA, aL_sM, gI_em, gI_emx, gI_pu, gI_wh] at hp6
          refine ⟨fun h7 => ?_, fun h7 => absurd h7 (by decide)⟩
          clear h7
          apply hB
          dsimp only [rgo, rfd, Btold, Nat.beq, rwp, rst, lv_args, rlk, rs1, rs2, rdl, rky, rct, rcs, rcd, rno, rsw, Value.category, List.filter, List.take, List.drop, List.reverse, List.reverseAux, List.cons_append, List.nil_append, Option.toList, Int.toNat, Int.reduceToNat, if_pos, if_neg, reduceIte, ↓reduceIte, Nat.reduceAdd, Nat.reduceEqDiff, Nat.reduceBEq, beq_self_eq_true, Bool.not_true, Bool.not_false, Bool.and_true, Bool.and_false, Bool.true_and, Bool.false_and, gI_sI, gI_sL, gI_sA, gI_sM, gL_sI, gL_sL, gL_sA, gL_sM, aI_sI, aI_sL, aI_sA, aI_sM, aL_sI, aL_sL, aL_sA, aL_sM, gI_em, gI_emx, gI_pu, gI_wh, Btold_0, Btold_23, Btold_32, Btold_34, oi_0, oi_1, oi_20, oi_45, oi_59, P_declaration, P_emit, P_scope, P_want]; try dsimp only
          refine ⟨rfl, rfl, (in_22 (by lia) (by lia)), rfl, (by decide), (⟨by lia, by lia⟩), fun w8 τ8 hq8 => ?_⟩
          obtain ⟨rfl, rfl⟩ := hq8
          dsimp only [Option.toList, List.cons_append, List.nil_append, Nat.beq, gI_sI, gI_sL, gI_sA, gI_sM, gL_sI, gL_sL, gL_sA, gL_sM, aI_sI, aI_sL, aI_sA, aI_sM, aL_sI, aL_sL, aL_sA, aL_sM, gI_em, gI_emx, gI_pu, gI_wh]
          refine ⟨Or.inr rfl, ?_⟩
          refine ⟨_, rfl, Or.inr ⟨rfl, ?_, ?_, ?_, ?_⟩⟩
          · exact (Fp.tr (by repeat (first | exact Fp.rf | (with_reducible refine Fp.vr ?_ ?_) | refine Fp.a ?_ rfl | refine Fp.i ?_ rfl | refine Fp.y ?_ rfl ⟨by lia, by lia⟩ | exact ⟨by lia, by lia⟩)) hf3).tr (by repeat (first | exact Fp.rf | (with_reducible refine Fp.vr ?_ ?_) | refine Fp.a ?_ rfl | refine Fp.i ?_ rfl | refine Fp.y ?_ rfl ⟨by lia, by lia⟩ | exact ⟨by lia, by lia⟩))
          · intro s k j hσ hk hnz
            have b1 := hσ.step (gI σ 14) nn.1 (by omega) hnz
            have b2 := hx3 _ _ _ b1 (by simp [zh])
            have b3 := b2.take (by assumption) rfl (k - 1) j ⟨by omega, by omega⟩ ⟨hσ.1.2.2.2.2.2.2, by omega⟩
            have b4 := b3.ends (aI τ3 22 (nT (gI σ 18))) htk3.2 (by omega)
            exact b4.wk k j ⟨by omega, by omega⟩ ⟨hσ.1.2.2.2.2.2.2, Int.le_refl _⟩
          · show gI σ 14 < gI τ3 14 + 1
            lia
          · exact (show Ff σ _ from ⟨rfl, rfl, rfl, rfl, rfl, rfl, rfl, rfl⟩).tr (hff3.tr ⟨rfl, rfl, rfl, rfl, rfl, rfl, rfl, rfl⟩)
        · dsimp only [Option.toList, List.cons_append, List.nil_append, Nat.beq, gI_sI, gI_sL, gI_sA, gI_sM, gL_sI, gL_sL, gL_sA, gL_sM, aI_sI, aI_sL, aI_sA, aI_sM, aL_sI, aL_sL, aL_sA, aL_sM, gI_em, gI_emx, gI_pu, gI_wh]
          refine ⟨fun h9 => absurd h9 (by decide), fun h9 => ?_⟩
          clear h9
          apply hB
          dsimp only [rgo, rfd, Btold, Nat.beq, rwp, rst, lv_args, rlk, rs1, rs2, rdl, rky, rct, rcs, rcd, rno, rsw, Value.category, List.filter, List.take, List.drop, List.reverse, List.reverseAux, List.cons_append, List.nil_append, Option.toList, Int.toNat, Int.reduceToNat, if_pos, if_neg, reduceIte, ↓reduceIte, Nat.reduceAdd, Nat.reduceEqDiff, Nat.reduceBEq, beq_self_eq_true, Bool.not_true, Bool.not_false, Bool.and_true, Bool.and_false, Bool.true_and, Bool.false_and, gI_sI, gI_sL, gI_sA, gI_sM, gL_sI, gL_sL, gL_sA, gL_sM, aI_sI, aI_sL, aI_sA, aI_sM, aL_sI, aL_sL, aL_sA, aL_sM, gI_em, gI_emx, gI_pu, gI_wh, Btold_0, Btold_23, Btold_32, Btold_34, oi_0, oi_1, oi_20, oi_45, oi_59, P_declaration, P_emit, P_scope, P_want]; try dsimp only
          refine ⟨Or.inl rfl, ?_⟩
          exact ⟨_, rfl, Or.inl ⟨rfl, (Fp.tr (by repeat (first | exact Fp.rf | (with_reducible refine Fp.vr ?_ ?_) | refine Fp.a ?_ rfl | refine Fp.i ?_ rfl | refine Fp.y ?_ rfl ⟨by lia, by lia⟩ | exact ⟨by lia, by lia⟩)) hf3).tr (by repeat (first | exact Fp.rf | (with_reducible refine Fp.vr ?_ ?_) | refine Fp.a ?_ rfl | refine Fp.i ?_ rfl | refine Fp.y ?_ rfl ⟨by lia, by lia⟩ | exact ⟨by lia, by lia⟩))⟩⟩
    next => exact hP.elim
theorem m_told (l : Launch) : RMet l 8 47 P_told Q_told := by
  refine RMet.by Btold [(48, P_declaration, Q_declaration), (20, P_emit, Q_emit), (41, P_scope, Q_scope), (18, P_want, Q_want)] rotold okBtold (ctc (m_declaration l) (by decide) (ctc (m_emit l) (by decide) (ctc (m_scope l) (by decide) (ctc (m_want l) (by decide) ct0)))) ?_ b_told
  · intro As σ hP
    unfold P_told at hP
    split at hP
    next => exact Nat.le_of_ble_eq_true rfl
    next => exact hP.elim
set_option maxRecDepth 100000 in
theorem e_told (l : Launch) : RMetE l 8 47 P_told Q_told := by
  refine RMetE.by Btold [(48, P_declaration, Q_declaration), (20, P_emit, Q_emit), (41, P_scope, Q_scope), (18, P_want, Q_want)] rfl rfl rotold okBtold (ctEc (e_declaration l) (by decide) (ctEc (e_emit l) (by decide) (ctEc (e_scope l) (by decide) (ctEc (e_want l) (by decide) ctE0)))) ?_ b_told
  · intro As σ hP
    unfold P_told at hP
    split at hP
    next => exact Nat.le_of_ble_eq_true rfl
    next => exact hP.elim
