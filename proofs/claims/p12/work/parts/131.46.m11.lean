def P_exps : RP := fun As σ => match As with
  | [] => ∃ s k j, PI σ [] s k j
  | _ => False
def Q_exps : RQ := fun As σ w τ => match As with
  | [] => ∃ r : Int32, w = some (.int r) ∧ ((r = 0 ∧ Fx σ τ) ∨ (r = 1 ∧ Fx σ τ ∧ (∀ s k j, PI σ [] s k j → PI τ [] s k j) ∧ (∀ K, Fr σ K → Fr τ K) ∧ (gI σ 14) < (gI τ 14)))
  | _ => False
set_option maxRecDepth 100000 in
set_option maxHeartbeats 4000000 in
theorem b_exps : Bod Bexps [(27, P_expression, Q_expression), (14, P_isSign, Q_isSign), (51, P_pop, Q_pop), (17, P_take, Q_take)] P_exps Q_exps := by
  · intro As σ hP G hB hW
    unfold P_exps at hP
    split at hP
    next => 
      unfold Q_exps at hB
      dsimp only at hB
      obtain ⟨ss, kk, jj, hPI⟩ := hP
      have nna := hPI.nums
      have out : ∀ τ : RS, (∀ s k j, PI σ [] s k j → PI τ [] s k j) → (∀ K, Fr σ K → Fr τ K) → Fx σ τ → gI σ 14 < gI τ 14 → G 2 [(0, .ref 1000), (1, .int 0)] [] τ := by
        intro τ hK hR hF hp
        apply hB
        dsimp only [rgo, rfd, Bexps, Nat.beq, rwp, rst, lv_args, rlk, rs1, rs2, rdl, rky, rct, rcs, rcd, rno, rsw, Value.category, List.filter, List.take, List.drop, List.reverse, List.reverseAux, List.cons_append, List.nil_append, Option.toList, Int.toNat, Int.reduceToNat, if_pos, if_neg, reduceIte, ↓reduceIte, Nat.reduceAdd, Nat.reduceEqDiff, Nat.reduceBEq, beq_self_eq_true, Bool.not_true, Bool.not_false, Bool.and_true, Bool.and_false, Bool.true_and, Bool.false_and, gI_sI, gI_sL, gI_sA, gI_sM, gL_sI, gL_sL, gL_sA, gL_sM, aI_sI, aI_sL, aI_sA, aI_sM, aL_sI, aL_sL, aL_sA, aL_sM, gI_em, gI_emx, gI_pu, gI_wh, Bexps_0, Bexps_2, Bexps_6, Bexps_13, Bexps_15, Bexps_30, Bexps_37, Bexps_39, oi_0, oi_1, oi_44, P_expression, P_isSign, P_pop, P_take]; try dsimp only
        refine ⟨fun _ => ?_, fun h => absurd rfl h⟩
        apply hB
        dsimp only [rgo, rfd, Bexps, Nat.beq, rwp, rst, lv_args, rlk, rs1, rs2, rdl, rky, rct, rcs, rcd, rno, rsw, Value.category, List.filter, List.take, List.drop, List.reverse, List.reverseAux, List.cons_append, List.nil_append, Option.toList, Int.toNat, Int.reduceToNat, if_pos, if_neg, reduceIte, ↓reduceIte, Nat.reduceAdd, Nat.reduceEqDiff, Nat.reduceBEq, beq_self_eq_true, Bool.not_true, Bool.not_false, Bool.and_true, Bool.and_false, Bool.true_and, Bool.false_and, gI_sI, gI_sL, gI_sA, gI_sM, gL_sI, gL_sL, gL_sA, gL_sM, aI_sI, aI_sL, aI_sA, aI_sM, aL_sI, aL_sL, aL_sA, aL_sM, gI_em, gI_emx, gI_pu, gI_wh, Bexps_0, Bexps_2, Bexps_6, Bexps_13, Bexps_15, Bexps_30, Bexps_37, Bexps_39, oi_0, oi_1, oi_44, P_expression, P_isSign, P_pop, P_take]; try dsimp only
        exact ⟨Or.inr rfl, _, rfl, Or.inr ⟨rfl, hF, hK, hR, hp⟩⟩
      have loop : ∀ n : Nat, ∀ τ : RS, (500 - (gI τ 14).toInt).toNat = n → (∀ s k j, PI σ [] s k j → PI τ [] s k j) → (∀ K, Fr σ K → Fr τ K) → Fx σ τ → gI σ 14 ≤ gI τ 14 → G 2 [(0, .ref 1000), (1, .int 1)] [] τ := by
        intro n
        induction n using Nat.strongRecOn with
        | ind n ih =>
          intro τ hn hK hR hF hpos
          have hg := hK ss kk jj hPI
          have nn := hg.nums
          apply hB
          dsimp only [rgo, rfd, Bexps, Nat.beq, rwp, rst, lv_args, rlk, rs1, rs2, rdl, rky, rct, rcs, rcd, rno, rsw, Value.category, List.filter, List.take, List.drop, List.reverse, List.reverseAux, List.cons_append, List.nil_append, Option.toList, Int.toNat, Int.reduceToNat, if_pos, if_neg, reduceIte, ↓reduceIte, Nat.reduceAdd, Nat.reduceEqDiff, Nat.reduceBEq, beq_self_eq_true, Bool.not_true, Bool.not_false, Bool.and_true, Bool.and_false, Bool.true_and, Bool.false_and, gI_sI, gI_sL, gI_sA, gI_sM, gL_sI, gL_sL, gL_sA, gL_sM, aI_sI, aI_sL, aI_sA, aI_sM, aL_sI, aL_sL, aL_sA, aL_sM, gI_em, gI_emx, gI_pu, gI_wh, Bexps_0, Bexps_2, Bexps_6, Bexps_13, Bexps_15, Bexps_30, Bexps_37, Bexps_39, oi_0, oi_1, oi_44, P_expression, P_isSign, P_pop, P_take]; try dsimp only
          refine ⟨fun h1 => absurd h1 (by decide), fun h1 => ?_⟩
          clear h1
          apply hB
          dsimp only [rgo, rfd, Bexps, Nat.beq, rwp, rst, lv_args, rlk, rs1, rs2, rdl, rky, rct, rcs, rcd, rno, rsw, Value.category, List.filter, List.take, List.drop, List.reverse, List.reverseAux, List.cons_append, List.nil_append, Option.toList, Int.toNat, Int.reduceToNat, if_pos, if_neg, reduceIte, ↓reduceIte, Nat.reduceAdd, Nat.reduceEqDiff, Nat.reduceBEq, beq_self_eq_true, Bool.not_true, Bool.not_false, Bool.and_true, Bool.and_false, Bool.true_and, Bool.false_and, gI_sI, gI_sL, gI_sA, gI_sM, gL_sI, gL_sL, gL_sA, gL_sM, aI_sI, aI_sL, aI_sA, aI_sM, aL_sI, aL_sL, aL_sA, aL_sM, gI_em, gI_emx, gI_pu, gI_wh, Bexps_0, Bexps_2, Bexps_6, Bexps_13, Bexps_15, Bexps_30, Bexps_37, Bexps_39, oi_0, oi_1, oi_44, P_expression, P_isSign, P_pop, P_take]; try dsimp only
          refine ⟨rfl, (by decide), (hg.xp), fun w2 τ2 hq2 => ?_⟩
          obtain ⟨r2, rfl, hq2⟩ := hq2
          rcases hq2 with ⟨rfl, hf2⟩ | ⟨rfl, hx2⟩
          · dsimp only [Option.toList, List.cons_append, List.nil_append, Nat.beq, gI_sI, gI_sL, gI_sA, gI_sM, gL_sI, gL_sL, gL_sA, gL_sM, aI_sI, aI_sL, aI_sA, aI_sM, aL_sI, aL_sL, aL_sA, aL_sM, gI_em, gI_emx, gI_pu, gI_wh]
            refine ⟨fun h3 => absurd h3 (by decide), fun h3 => ?_⟩
            clear h3
            apply hB
            dsimp only [rgo, rfd, Bexps, Nat.beq, rwp, rst, lv_args, rlk, rs1, rs2, rdl, rky, rct, rcs, rcd, rno, rsw, Value.category, List.filter, List.take, List.drop, List.reverse, List.reverseAux, List.cons_append, List.nil_append, Option.toList, Int.toNat, Int.reduceToNat, if_pos, if_neg, reduceIte, ↓reduceIte, Nat.reduceAdd, Nat.reduceEqDiff, Nat.reduceBEq, beq_self_eq_true, Bool.not_true, Bool.not_false, Bool.and_true, Bool.and_false, Bool.true_and, Bool.false_and, gI_sI, gI_sL, gI_sA, gI_sM, gL_sI, gL_sL, gL_sA, gL_sM, aI_sI, aI_sL, aI_sA, aI_sM, aL_sI, aL_sL, aL_sA, aL_sM, gI_em, gI_emx, gI_pu, gI_wh, Bexps_0, Bexps_2, Bexps_6, Bexps_13, Bexps_15, Bexps_30, Bexps_37, Bexps_39, oi_0, oi_1, oi_44, P_expression, P_isSign, P_pop, P_take]; try dsimp only
            refine ⟨Or.inl rfl, ?_⟩
            exact ⟨_, rfl, Or.inl ⟨rfl, hF.tr hf2⟩⟩
          · dsimp only [Option.toList, List.cons_append, List.nil_append, Nat.beq, gI_sI, gI_sL, gI_sA, gI_sM, gL_sI, gL_sL, gL_sA, gL_sM, aI_sI, aI_sL, aI_sA, aI_sM, aL_sI, aL_sL, aL_sA, aL_sM, gI_em, gI_emx, gI_pu, gI_wh]
            have hlt2 := t_lt hx2.2.2.1.1
            have hpe2 := hg.exp hx2 kk ⟨hPI.1.2.1.2.2, by omega⟩
            have nne2 := hpe2.nums
            have hro2 := t_le (x := 0) (Int.le_trans (t_0 hx2.2.1.1) hx2.2.2.2.2.2.2.1)
            have hrl2 := t_lt hx2.2.2.2.2.2.2.2
            have hcf2 := (hpe2.2.2.2.1 _ (nT_lt hro2 hrl2)).2.2.1
            refine ⟨fun h4 => ?_, fun h4 => absurd h4 (by decide)⟩
            clear h4
            apply hB
            dsimp only [rgo, rfd, Bexps, Nat.beq, rwp, rst, lv_args, rlk, rs1, rs2, rdl, rky, rct, rcs, rcd, rno, rsw, Value.category, List.filter, List.take, List.drop, List.reverse, List.reverseAux, List.cons_append, List.nil_append, Option.toList, Int.toNat, Int.reduceToNat, if_pos, if_neg, reduceIte, ↓reduceIte, Nat.reduceAdd, Nat.reduceEqDiff, Nat.reduceBEq, beq_self_eq_true, Bool.not_true, Bool.not_false, Bool.and_true, Bool.and_false, Bool.true_and, Bool.false_and, gI_sI, gI_sL, gI_sA, gI_sM, gL_sI, gL_sL, gL_sA, gL_sM, aI_sI, aI_sL, aI_sA, aI_sM, aL_sI, aL_sL, aL_sA, aL_sM, gI_em, gI_emx, gI_pu, gI_wh, Bexps_0, Bexps_2, Bexps_6, Bexps_13, Bexps_15, Bexps_30, Bexps_37, Bexps_39, oi_0, oi_1, oi_44, P_expression, P_isSign, P_pop, P_take]; try dsimp only
            refine ⟨rfl, (by decide), (⟨⟨by lia, by lia⟩, by lia, by lia⟩), fun w5 τ5 hq5 => ?_⟩
            obtain ⟨rfl, pa5, rfl⟩ := hq5
            dsimp only [Option.toList, List.cons_append, List.nil_append, Nat.beq, gI_sI, gI_sL, gI_sA, gI_sM, gL_sI, gL_sL, gL_sA, gL_sM, aI_sI, aI_sL, aI_sA, aI_sM, aL_sI, aL_sL, aL_sA, aL_sM, gI_em, gI_emx, gI_pu, gI_wh]
            refine ⟨rfl, (by decide), (⟨by lia, by lia⟩), fun w6 τ6 hq6 => ?_⟩
            obtain ⟨r6, rfl, hr6, e6⟩ := hq6
            obtain rfl := e6.symm
            rcases hr6 with rfl | ⟨rfl, hw6⟩
            · dsimp only [Option.toList, List.cons_append, List.nil_append, Nat.beq, gI_sI, gI_sL, gI_sA, gI_sM, gL_sI, gL_sL, gL_sA, gL_sM, aI_sI, aI_sL, aI_sA, aI_sM, aL_sI, aL_sL, aL_sA, aL_sM, gI_em, gI_emx, gI_pu, gI_wh]
              refine ⟨fun h7 => ?_, fun h7 => absurd h7 (by decide)⟩
              clear h7
              refine hW 2 [(0, .ref 1000), (1, .int 0)] _ _ _ (by simp) (out _ ?_ (fun K z => (Fr.exp hx2 K (hR K z)).e1 21 pa5 0 ⟨nne2.2.1.1, by lia⟩ (fun q => absurd q (by decide))) ?_ ?_)
              · intro s k j hσ
                have b := (((hK s k j hσ).exp hx2 (k - 2) ⟨by have := hσ.1.2.1.2.2; omega, by omega⟩).pop pa5 _ hcf2 (by have := hσ.1.2.1.2.2; omega))
                exact b.wk k j ⟨hσ.1.2.1.2.2, by omega⟩ ⟨hσ.1.2.2.2.2.2.2, Int.le_refl _⟩
              · exact (hF.tr hx2.1).tr (by repeat (first | exact Fx.rf | refine Fx.a ?_ rfl | refine Fx.i ?_ rfl))
              · show gI σ 14 < gI τ2 14
                lia
            · dsimp only [Option.toList, List.cons_append, List.nil_append, Nat.beq, gI_sI, gI_sL, gI_sA, gI_sM, gL_sI, gL_sL, gL_sA, gL_sM, aI_sI, aI_sL, aI_sA, aI_sM, aL_sI, aL_sL, aL_sA, aL_sM, gI_em, gI_emx, gI_pu, gI_wh]
              refine ⟨fun h8 => absurd h8 (by decide), fun h8 => ?_⟩
              clear h8
              apply hB
              dsimp only [rgo, rfd, Bexps, Nat.beq, rwp, rst, lv_args, rlk, rs1, rs2, rdl, rky, rct, rcs, rcd, rno, rsw, Value.category, List.filter, List.take, List.drop, List.reverse, List.reverseAux, List.cons_append, List.nil_append, Option.toList, Int.toNat, Int.reduceToNat, if_pos, if_neg, reduceIte, ↓reduceIte, Nat.reduceAdd, Nat.reduceEqDiff, Nat.reduceBEq, beq_self_eq_true, Bool.not_true, Bool.not_false, Bool.and_true, Bool.and_false, Bool.true_and, Bool.false_and, gI_sI, gI_sL, gI_sA, gI_sM, gL_sI, gL_sL, gL_sA, gL_sM, aI_sI, aI_sL, aI_sA, aI_sM, aL_sI, aL_sL, aL_sA, aL_sM, gI_em, gI_emx, gI_pu, gI_wh, Bexps_0, Bexps_2, Bexps_6, Bexps_13, Bexps_15, Bexps_30, Bexps_37, Bexps_39, oi_0, oi_1, oi_44, P_expression, P_isSign, P_pop, P_take]; try dsimp only
              refine ⟨rfl, (by decide), (⟨by lia, by lia⟩), fun w9 τ9 hq9 => ?_⟩
              obtain ⟨r9, rfl, hq9⟩ := hq9
              rcases hq9 with ⟨rfl, hp9, rfl⟩ | ⟨rfl, fa9, fb9, rfl⟩
              · dsimp only [Option.toList, List.cons_append, List.nil_append, Nat.beq, gI_sI, gI_sL, gI_sA, gI_sM, gL_sI, gL_sL, gL_sA, gL_sM, aI_sI, aI_sL, aI_sA, aI_sM, aL_sI, aL_sL, aL_sA, aL_sM, gI_em, gI_emx, gI_pu, gI_wh]
                try dsimp only [Option.toList, List.cons_append, List.nil_append, Nat.beq, gI_sI, gI_sL, gI_sA, gI_sM, gL_sI, gL_sL, gL_sA, gL_sM, aI_sI, aI_sL, aI_sA, aI_sM, aL_sI, aL_sL, aL_sA, aL_sM, gI_em, gI_emx, gI_pu, gI_wh] at hp9
                refine ⟨fun h10 => ?_, fun h10 => absurd h10 (by decide)⟩
                clear h10
                refine hW 2 [(0, .ref 1000), (1, .int 1)] _ _ _ (by simp) (ih _ ?_ _ rfl ?_ (fun K z => (Fr.exp hx2 K (hR K z)).e1 21 pa5 0 ⟨nne2.2.1.1, by lia⟩ (fun q => absurd q (by decide))) ?_ ?_)
                · exact mlt hn (show gI τ 14 < gI τ2 14 + 1 by lia) (show gI τ2 14 + 1 ≤ 500 by lia)
                · intro s k j hσ
                  have b := (((hK s k j hσ).exp hx2 (k - 2) ⟨by have := hσ.1.2.1.2.2; omega, by omega⟩).pop pa5 _ hcf2 (by have := hσ.1.2.1.2.2; omega))
                  exact b.take (by assumption) rfl k j ⟨hσ.1.2.1.2.2, by omega⟩ ⟨hσ.1.2.2.2.2.2.2, by omega⟩
                · exact (hF.tr hx2.1).tr (by repeat (first | exact Fx.rf | refine Fx.a ?_ rfl | refine Fx.i ?_ rfl))
                · show gI σ 14 ≤ gI τ2 14 + 1
                  lia
              · dsimp only [Option.toList, List.cons_append, List.nil_append, Nat.beq, gI_sI, gI_sL, gI_sA, gI_sM, gL_sI, gL_sL, gL_sA, gL_sM, aI_sI, aI_sL, aI_sA, aI_sM, aL_sI, aL_sL, aL_sA, aL_sM, gI_em, gI_emx, gI_pu, gI_wh]
                refine ⟨fun h11 => absurd h11 (by decide), fun h11 => ?_⟩
                clear h11
                apply hB
                dsimp only [rgo, rfd, Bexps, Nat.beq, rwp, rst, lv_args, rlk, rs1, rs2, rdl, rky, rct, rcs, rcd, rno, rsw, Value.category, List.filter, List.take, List.drop, List.reverse, List.reverseAux, List.cons_append, List.nil_append, Option.toList, Int.toNat, Int.reduceToNat, if_pos, if_neg, reduceIte, ↓reduceIte, Nat.reduceAdd, Nat.reduceEqDiff, Nat.reduceBEq, beq_self_eq_true, Bool.not_true, Bool.not_false, Bool.and_true, Bool.and_false, Bool.true_and, Bool.false_and, gI_sI, gI_sL, gI_sA, gI_sM, gL_sI, gL_sL, gL_sA, gL_sM, aI_sI, aI_sL, aI_sA, aI_sM, aL_sI, aL_sL, aL_sA, aL_sM, gI_em, gI_emx, gI_pu, gI_wh, Bexps_0, Bexps_2, Bexps_6, Bexps_13, Bexps_15, Bexps_30, Bexps_37, Bexps_39, oi_0, oi_1, oi_44, P_expression, P_isSign, P_pop, P_take]; try dsimp only
                refine ⟨Or.inl rfl, ?_⟩
                exact ⟨_, rfl, Or.inl ⟨rfl, (hF.tr hx2.1).tr (by repeat (first | exact Fx.rf | refine Fx.a ?_ rfl | refine Fx.i ?_ rfl))⟩⟩
      apply hB
      dsimp only [rgo, rfd, Bexps, Nat.beq, rwp, rst, lv_args, rlk, rs1, rs2, rdl, rky, rct, rcs, rcd, rno, rsw, Value.category, List.filter, List.take, List.drop, List.reverse, List.reverseAux, List.cons_append, List.nil_append, Option.toList, Int.toNat, Int.reduceToNat, if_pos, if_neg, reduceIte, ↓reduceIte, Nat.reduceAdd, Nat.reduceEqDiff, Nat.reduceBEq, beq_self_eq_true, Bool.not_true, Bool.not_false, Bool.and_true, Bool.and_false, Bool.true_and, Bool.false_and, gI_sI, gI_sL, gI_sA, gI_sM, gL_sI, gL_sL, gL_sA, gL_sM, aI_sI, aI_sL, aI_sA, aI_sM, aL_sI, aL_sL, aL_sA, aL_sM, gI_em, gI_emx, gI_pu, gI_wh, Bexps_0, Bexps_2, Bexps_6, Bexps_13, Bexps_15, Bexps_30, Bexps_37, Bexps_39, oi_0, oi_1, oi_44, P_expression, P_isSign, P_pop, P_take]; try dsimp only
      refine hW 2 [(0, .ref 1000), (1, .int 1)] _ _ _ (by simp) (loop _ σ rfl (fun _ _ _ h => h) (fun _ h => h) Fx.rf (Int32.le_refl _))
    next => exact hP.elim
theorem m_exps (l : Launch) : RMet l 7 56 P_exps Q_exps := by
  refine RMet.by Bexps [(27, P_expression, Q_expression), (14, P_isSign, Q_isSign), (51, P_pop, Q_pop), (17, P_take, Q_take)] roexps okBexps (ctc (m_expression l) (by decide) (ctc (m_isSign l) (by decide) (ctc (m_pop l) (by decide) (ctc (m_take l) (by decide) ct0)))) ?_ b_exps
  · intro As σ hP
    unfold P_exps at hP
    split at hP
    next => exact Nat.le_of_ble_eq_true rfl
    next => exact hP.elim
set_option maxRecDepth 100000 in
theorem e_exps (l : Launch) : RMetE l 7 56 P_exps Q_exps := by
  refine RMetE.by Bexps [(27, P_expression, Q_expression), (14, P_isSign, Q_isSign), (51, P_pop, Q_pop), (17, P_take, Q_take)] rfl rfl roexps okBexps (ctEc (e_expression l) (by decide) (ctEc (e_isSign l) (by decide) (ctEc (e_pop l) (by decide) (ctEc (e_take l) (by decide) ctE0)))) ?_ b_exps
  · intro As σ hP
    unfold P_exps at hP
    split at hP
    next => exact Nat.le_of_ble_eq_true rfl
    next => exact hP.elim
