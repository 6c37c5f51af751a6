def XP (σ : RS) : Prop := (0 ≤ (gI σ 14).toInt ∧ (gI σ 14).toInt ≤ 500) ∧ (0 ≤ (gI σ 18).toInt ∧ (gI σ 18).toInt ≤ 6 * (gI σ 14).toInt + 30) ∧ (0 ≤ (gI σ 17).toInt ∧ (gI σ 17).toInt ≤ 20) ∧ WZ σ ∧ Es (aI σ 19) (aI σ 20) (aI σ 21) (nT (gI σ 18)) = some []
def AE (σ τ : RS) : Prop := ∀ i, nT (gI σ 18) ≤ i → i < nT (gI τ 18) → aI τ 19 i = 16 → ∃ i', i' < nT (gI τ 18) ∧ aI τ 19 i' = 17 ∧ aI τ 22 i' = aI τ 22 i
def XE (σ τ : RS) : Prop := Fx σ τ ∧ CI σ τ [0] ∧ ((gI σ 14).toInt < (gI τ 14).toInt ∧ (gI τ 14).toInt ≤ 500) ∧ (gI τ 18).toInt - (gI σ 18).toInt ≤ 4 * ((gI τ 14).toInt - (gI σ 14).toInt) ∧ gI τ 17 = gI σ 17 ∧ AE σ τ ∧ ((gI σ 18).toInt ≤ (gI τ 33).toInt ∧ (gI τ 33).toInt < (gI τ 18).toInt)
theorem XI.start {σ : RS} (h : XP σ) : XI σ (sI (sI σ 29 0) 31 0) [] 0 0 := by
  obtain ⟨⟨h1, h2⟩, ⟨h3, h4⟩, ⟨h5, h6⟩, h7, h9⟩ := h
  have h0 : 0 ≤ gI σ 18 := t_le h3
  have h39 : gI σ 18 ≤ 3990 := t_le (by show _ ≤ (3990 : Int); omega)
  refine ⟨[], 0, (Fx.rf.i rfl).i rfl, ⟨h0, Int32.le_refl _, h39, fun i _ => ⟨rfl, rfl, rfl, rfl, rfl, rfl⟩, fun i a b => ?_, h9, fun i a b => absurd b (Nat.not_lt.mpr a), fun i a b => absurd a (Nat.not_lt.mpr b)⟩, ⟨show (0 : Int32) ≤ 0 by decide, show (0 : Int32) ≤ 599 by decide, rfl, rfl, fun i hi => ?_⟩, ⟨show (0 : Int32) ≤ 0 by decide, rfl, fun i hi => ?_⟩, ⟨h1, Int.le_refl _, h2⟩, ⟨?_, ?_, by decide, ?_⟩, ⟨?_, h4, by decide⟩, ⟨h5, ?_, h6⟩, ⟨fun i a b => absurd b (Nat.not_lt.mpr a), h7⟩, fun q => by cases q⟩
  · exact absurd b (Nat.not_lt.mpr a)
  · exact absurd hi (Nat.not_lt_zero i)
  · exact absurd hi (Nat.not_lt_zero i)
  · show (0 : Int32).toInt + 0 ≤ (gI σ 14).toInt
    have : (0 : Int32).toInt = 0 := rfl
    omega
  · show (0 : Int32).toInt + 0 ≤ (gI σ 14).toInt
    have : (0 : Int32).toInt = 0 := rfl
    omega
  · show 2 * (([] : List Nat).length : Int) + (([] : List Nat).length : Int) + 0 ≤ (gI σ 14).toInt - (gI σ 14).toInt
    have : ([] : List Nat).length = 0 := rfl
    omega
  · show (gI σ 18).toInt - (gI σ 18).toInt + 2 * (0 : Int32).toInt + 0 ≤ 4 * ((gI σ 14).toInt - (gI σ 14).toInt)
    have : (0 : Int32).toInt = 0 := rfl
    omega
  · show (gI σ 17).toInt = (gI σ 17).toInt + ((0 : Nat) : Int)
    omega
theorem XI.done {σ τ : RS} (h : XI σ τ [0] 0 0) (ho : gI τ 29 = 0) (hp : gI σ 14 < gI τ 14) : XE σ τ := by
  obtain ⟨L, d, hF, hC, hO, hV, hp1, hj, hk, hd, hl, hr⟩ := h
  obtain ⟨o1, o2, o3, o4, o5⟩ := hO
  rw [ho] at o3 o4 hk
  have hL : L = [] := o3.symm
  have hd0 : d = 0 := o4.symm
  subst hL; subst hd0
  have z0 : (0 : Int32).toInt = 0 := rfl
  refine ⟨hF, hC, ⟨Int32.lt_iff_toInt_lt.mp hp, hp1.2.2⟩, by omega, Int32.toInt_inj.mp (by omega), fun i a b c => ?_, hr rfl⟩
  rcases hl.1 i a b c with z | ⟨q, hq, -⟩
  · exact z
  · have n0 : nT (0 : Int32) = 0 := by decide
    rw [ho, n0] at hq
    exact absurd hq (Nat.not_lt_zero q)
def P_expression : RP := fun As σ => match As with
  | [] => XP σ
  | _ => False
def Q_expression : RQ := fun As σ w τ => match As with
  | [] => ∃ r : Int32, w = some (.int r) ∧ ((r = 0 ∧ Fx σ τ) ∨ (r = 1 ∧ XE σ τ))
  | _ => False
set_option maxRecDepth 100000 in
set_option maxHeartbeats 4000000 in
theorem b_expression : Bod Bexpression [(34, P_behind, Q_behind), (29, P_operand, Q_operand)] P_expression Q_expression := by
  · intro As σ hP G hB hW
    unfold P_expression at hP
    split at hP
    next => 
      unfold Q_expression at hB
      dsimp only at hB
      have nna : 0 ≤ gI σ 14 ∧ gI σ 14 ≤ 500 := ⟨t_le hP.1.1, t_le hP.1.2⟩
      have out : ∀ τ : RS, XI σ τ [0] 0 0 → gI τ 29 = 0 → gI σ 14 < gI τ 14 → G 14 [(0, .ref 1000), (2, .int 0)] [] τ := by
        intro τ hX ho hp
        apply hB
        dsimp only [rgo, rfd, Bexpression, Nat.beq, rwp, rst, lv_args, rlk, rs1, rs2, rdl, rky, rct, rcs, rcd, rno, rsw, Value.category, List.filter, List.take, List.drop, List.reverse, List.reverseAux, List.cons_append, List.nil_append, Option.toList, Int.toNat, Int.reduceToNat, if_pos, if_neg, reduceIte, ↓reduceIte, Nat.reduceAdd, Nat.reduceEqDiff, Nat.reduceBEq, beq_self_eq_true, Bool.not_true, Bool.not_false, Bool.and_true, Bool.and_false, Bool.true_and, Bool.false_and, gI_sI, gI_sL, gI_sA, gI_sM, gL_sI, gL_sL, gL_sA, gL_sM, aI_sI, aI_sL, aI_sA, aI_sM, aL_sI, aL_sL, aL_sA, aL_sM, gI_em, gI_emx, gI_pu, gI_wh, Bexpression_0, Bexpression_14, Bexpression_18, Bexpression_26, Bexpression_28, Bexpression_35, Bexpression_43, Bexpression_50, Bexpression_52, Bexpression_65, oi_0, oi_1, P_behind, P_operand]; try dsimp only
        refine ⟨fun _ => ?_, fun h => absurd rfl h⟩
        apply hB
        dsimp only [rgo, rfd, Bexpression, Nat.beq, rwp, rst, lv_args, rlk, rs1, rs2, rdl, rky, rct, rcs, rcd, rno, rsw, Value.category, List.filter, List.take, List.drop, List.reverse, List.reverseAux, List.cons_append, List.nil_append, Option.toList, Int.toNat, Int.reduceToNat, if_pos, if_neg, reduceIte, ↓reduceIte, Nat.reduceAdd, Nat.reduceEqDiff, Nat.reduceBEq, beq_self_eq_true, Bool.not_true, Bool.not_false, Bool.and_true, Bool.and_false, Bool.true_and, Bool.false_and, gI_sI, gI_sL, gI_sA, gI_sM, gL_sI, gL_sL, gL_sA, gL_sM, aI_sI, aI_sL, aI_sA, aI_sM, aL_sI, aL_sL, aL_sA, aL_sM, gI_em, gI_emx, gI_pu, gI_wh, Bexpression_0, Bexpression_14, Bexpression_18, Bexpression_26, Bexpression_28, Bexpression_35, Bexpression_43, Bexpression_50, Bexpression_52, Bexpression_65, oi_0, oi_1, P_behind, P_operand]; try dsimp only
        exact ⟨Or.inr rfl, _, rfl, Or.inr ⟨rfl, hX.done ho hp⟩⟩
      have loop : ∀ n : Nat, ∀ τ : RS, (500 - (gI τ 14).toInt).toNat = n → XI σ τ [] 0 0 → gI σ 14 ≤ gI τ 14 → ∀ b : Int32, (b = 0 ∨ b = 1) → G 14 [(0, .ref 1000), (1, .int b), (2, .int 1)] [] τ := by
        intro n
        induction n using Nat.strongRecOn with
        | ind n ih =>
          intro τ hn hX hpos b hb
          have nn := hX.nums
          apply hB
          dsimp only [rgo, rfd, Bexpression, Nat.beq, rwp, rst, lv_args, rlk, rs1, rs2, rdl, rky, rct, rcs, rcd, rno, rsw, Value.category, List.filter, List.take, List.drop, List.reverse, List.reverseAux, List.cons_append, List.nil_append, Option.toList, Int.toNat, Int.reduceToNat, if_pos, if_neg, reduceIte, ↓reduceIte, Nat.reduceAdd, Nat.reduceEqDiff, Nat.reduceBEq, beq_self_eq_true, Bool.not_true, Bool.not_false, Bool.and_true, Bool.and_false, Bool.true_and, Bool.false_and, gI_sI, gI_sL, gI_sA, gI_sM, gL_sI, gL_sL, gL_sA, gL_sM, aI_sI, aI_sL, aI_sA, aI_sM, aL_sI, aL_sL, aL_sA, aL_sM, gI_em, gI_emx, gI_pu, gI_wh, Bexpression_0, Bexpression_14, Bexpression_18, Bexpression_26, Bexpression_28, Bexpression_35, Bexpression_43, Bexpression_50, Bexpression_52, Bexpression_65, oi_0, oi_1, P_behind, P_operand]; try dsimp only
          refine ⟨fun h1 => absurd h1 (by decide), fun h1 => ?_⟩
          clear h1
          apply hB
          dsimp only [rgo, rfd, Bexpression, Nat.beq, rwp, rst, lv_args, rlk, rs1, rs2, rdl, rky, rct, rcs, rcd, rno, rsw, Value.category, List.filter, List.take, List.drop, List.reverse, List.reverseAux, List.cons_append, List.nil_append, Option.toList, Int.toNat, Int.reduceToNat, if_pos, if_neg, reduceIte, ↓reduceIte, Nat.reduceAdd, Nat.reduceEqDiff, Nat.reduceBEq, beq_self_eq_true, Bool.not_true, Bool.not_false, Bool.and_true, Bool.and_false, Bool.true_and, Bool.false_and, gI_sI, gI_sL, gI_sA, gI_sM, gL_sI, gL_sL, gL_sA, gL_sM, aI_sI, aI_sL, aI_sA, aI_sM, aL_sI, aL_sL, aL_sA, aL_sM, gI_em, gI_emx, gI_pu, gI_wh, Bexpression_0, Bexpression_14, Bexpression_18, Bexpression_26, Bexpression_28, Bexpression_35, Bexpression_43, Bexpression_50, Bexpression_52, Bexpression_65, oi_0, oi_1, P_behind, P_operand]; try dsimp only
          refine ⟨rfl, (by decide), (⟨⟨σ, hX⟩, hb⟩), fun w2 τ2 hq2 => ?_⟩
          obtain ⟨r2, rfl, hq2⟩ := hq2
          rcases hq2 with ⟨rfl, hf2⟩ | ⟨rfl, hr2⟩
          · dsimp only [Option.toList, List.cons_append, List.nil_append, Nat.beq, gI_sI, gI_sL, gI_sA, gI_sM, gL_sI, gL_sL, gL_sA, gL_sM, aI_sI, aI_sL, aI_sA, aI_sM, aL_sI, aL_sL, aL_sA, aL_sM, gI_em, gI_emx, gI_pu, gI_wh]
            refine ⟨fun h3 => absurd h3 (by decide), fun h3 => ?_⟩
            clear h3
            apply hB
            dsimp only [rgo, rfd, Bexpression, Nat.beq, rwp, rst, lv_args, rlk, rs1, rs2, rdl, rky, rct, rcs, rcd, rno, rsw, Value.category, List.filter, List.take, List.drop, List.reverse, List.reverseAux, List.cons_append, List.nil_append, Option.toList, Int.toNat, Int.reduceToNat, if_pos, if_neg, reduceIte, ↓reduceIte, Nat.reduceAdd, Nat.reduceEqDiff, Nat.reduceBEq, beq_self_eq_true, Bool.not_true, Bool.not_false, Bool.and_true, Bool.and_false, Bool.true_and, Bool.false_and, gI_sI, gI_sL, gI_sA, gI_sM, gL_sI, gL_sL, gL_sA, gL_sM, aI_sI, aI_sL, aI_sA, aI_sM, aL_sI, aL_sL, aL_sA, aL_sM, gI_em, gI_emx, gI_pu, gI_wh, Bexpression_0, Bexpression_14, Bexpression_18, Bexpression_26, Bexpression_28, Bexpression_35, Bexpression_43, Bexpression_50, Bexpression_52, Bexpression_65, oi_0, oi_1, P_behind, P_operand]; try dsimp only
            refine ⟨Or.inl rfl, ?_⟩
            exact ⟨_, rfl, Or.inl ⟨rfl, hX.fx.tr hf2⟩⟩
          · dsimp only [Option.toList, List.cons_append, List.nil_append, Nat.beq, gI_sI, gI_sL, gI_sA, gI_sM, gL_sI, gL_sL, gL_sA, gL_sM, aI_sI, aI_sL, aI_sA, aI_sM, aL_sI, aL_sL, aL_sA, aL_sM, gI_em, gI_emx, gI_pu, gI_wh]
            refine ⟨fun h4 => ?_, fun h4 => absurd h4 (by decide)⟩
            clear h4
            have hlt : gI τ 14 < gI τ2 14 := hr2.2
            rcases hr2.1 σ hX with ⟨hw1, hX1, hb1⟩ | ⟨hw1, hX1⟩
            · have nn1 := hX1.nums
              apply hB
              dsimp only [rgo, rfd, Bexpression, Nat.beq, rwp, rst, lv_args, rlk, rs1, rs2, rdl, rky, rct, rcs, rcd, rno, rsw, Value.category, List.filter, List.take, List.drop, List.reverse, List.reverseAux, List.cons_append, List.nil_append, Option.toList, Int.toNat, Int.reduceToNat, if_pos, if_neg, reduceIte, ↓reduceIte, Nat.reduceAdd, Nat.reduceEqDiff, Nat.reduceBEq, beq_self_eq_true, Bool.not_true, Bool.not_false, Bool.and_true, Bool.and_false, Bool.true_and, Bool.false_and, gI_sI, gI_sL, gI_sA, gI_sM, gL_sI, gL_sL, gL_sA, gL_sM, aI_sI, aI_sL, aI_sA, aI_sM, aL_sI, aL_sL, aL_sA, aL_sM, gI_em, gI_emx, gI_pu, gI_wh, Bexpression_0, Bexpression_14, Bexpression_18, Bexpression_26, Bexpression_28, Bexpression_35, Bexpression_43, Bexpression_50, Bexpression_52, Bexpression_65, oi_0, oi_1, P_behind, P_operand]; try dsimp only
              refine ⟨rfl, fun h => absurd h (by rw [hw1]; decide), fun _ => ?_⟩
              apply hB
              dsimp only [rgo, rfd, Bexpression, Nat.beq, rwp, rst, lv_args, rlk, rs1, rs2, rdl, rky, rct, rcs, rcd, rno, rsw, Value.category, List.filter, List.take, List.drop, List.reverse, List.reverseAux, List.cons_append, List.nil_append, Option.toList, Int.toNat, Int.reduceToNat, if_pos, if_neg, reduceIte, ↓reduceIte, Nat.reduceAdd, Nat.reduceEqDiff, Nat.reduceBEq, beq_self_eq_true, Bool.not_true, Bool.not_false, Bool.and_true, Bool.and_false, Bool.true_and, Bool.false_and, gI_sI, gI_sL, gI_sA, gI_sM, gL_sI, gL_sL, gL_sA, gL_sM, aI_sI, aI_sL, aI_sA, aI_sM, aL_sI, aL_sL, aL_sA, aL_sM, gI_em, gI_emx, gI_pu, gI_wh, Bexpression_0, Bexpression_14, Bexpression_18, Bexpression_26, Bexpression_28, Bexpression_35, Bexpression_43, Bexpression_50, Bexpression_52, Bexpression_65, oi_0, oi_1, P_behind, P_operand]; try dsimp only
              refine ⟨rfl, ?_⟩
              refine hW 14 [(0, .ref 1000), (1, .int (gI τ2 35)), (2, .int 1)] _ _ _ (by simp) (ih _ (mlt hn hlt (by lia)) _ rfl hX1 (by lia) _ hb1)
            · have nn1 := hX1.nums
              apply hB
              dsimp only [rgo, rfd, Bexpression, Nat.beq, rwp, rst, lv_args, rlk, rs1, rs2, rdl, rky, rct, rcs, rcd, rno, rsw, Value.category, List.filter, List.take, List.drop, List.reverse, List.reverseAux, List.cons_append, List.nil_append, Option.toList, Int.toNat, Int.reduceToNat, if_pos, if_neg, reduceIte, ↓reduceIte, Nat.reduceAdd, Nat.reduceEqDiff, Nat.reduceBEq, beq_self_eq_true, Bool.not_true, Bool.not_false, Bool.and_true, Bool.and_false, Bool.true_and, Bool.false_and, gI_sI, gI_sL, gI_sA, gI_sM, gL_sI, gL_sL, gL_sA, gL_sM, aI_sI, aI_sL, aI_sA, aI_sM, aL_sI, aL_sL, aL_sA, aL_sM, gI_em, gI_emx, gI_pu, gI_wh, Bexpression_0, Bexpression_14, Bexpression_18, Bexpression_26, Bexpression_28, Bexpression_35, Bexpression_43, Bexpression_50, Bexpression_52, Bexpression_65, oi_0, oi_1, P_behind, P_operand]; try dsimp only
              refine ⟨rfl, fun _ => ?_, fun h => absurd hw1 h⟩
              apply hB
              dsimp only [rgo, rfd, Bexpression, Nat.beq, rwp, rst, lv_args, rlk, rs1, rs2, rdl, rky, rct, rcs, rcd, rno, rsw, Value.category, List.filter, List.take, List.drop, List.reverse, List.reverseAux, List.cons_append, List.nil_append, Option.toList, Int.toNat, Int.reduceToNat, if_pos, if_neg, reduceIte, ↓reduceIte, Nat.reduceAdd, Nat.reduceEqDiff, Nat.reduceBEq, beq_self_eq_true, Bool.not_true, Bool.not_false, Bool.and_true, Bool.and_false, Bool.true_and, Bool.false_and, gI_sI, gI_sL, gI_sA, gI_sM, gL_sI, gL_sL, gL_sA, gL_sM, aI_sI, aI_sL, aI_sA, aI_sM, aL_sI, aL_sL, aL_sA, aL_sM, gI_em, gI_emx, gI_pu, gI_wh, Bexpression_0, Bexpression_14, Bexpression_18, Bexpression_26, Bexpression_28, Bexpression_35, Bexpression_43, Bexpression_50, Bexpression_52, Bexpression_65, oi_0, oi_1, P_behind, P_operand]; try dsimp only
              refine ⟨rfl, (by decide), (⟨σ, hX1⟩), fun w1 τ1 hq1 => ?_⟩
              obtain ⟨r1, rfl, hq1⟩ := hq1
              rcases hq1 with ⟨rfl, hf1⟩ | ⟨rfl, hr1⟩
              · dsimp only [Option.toList, List.cons_append, List.nil_append, Nat.beq, gI_sI, gI_sL, gI_sA, gI_sM, gL_sI, gL_sL, gL_sA, gL_sM, aI_sI, aI_sL, aI_sA, aI_sM, aL_sI, aL_sL, aL_sA, aL_sM, gI_em, gI_emx, gI_pu, gI_wh]
                refine ⟨fun h2 => absurd h2 (by decide), fun h2 => ?_⟩
                clear h2
                apply hB
                dsimp only [rgo, rfd, Bexpression, Nat.beq, rwp, rst, lv_args, rlk, rs1, rs2, rdl, rky, rct, rcs, rcd, rno, rsw, Value.category, List.filter, List.take, List.drop, List.reverse, List.reverseAux, List.cons_append, List.nil_append, Option.toList, Int.toNat, Int.reduceToNat, if_pos, if_neg, reduceIte, ↓reduceIte, Nat.reduceAdd, Nat.reduceEqDiff, Nat.reduceBEq, beq_self_eq_true, Bool.not_true, Bool.not_false, Bool.and_true, Bool.and_false, Bool.true_and, Bool.false_and, gI_sI, gI_sL, gI_sA, gI_sM, gL_sI, gL_sL, gL_sA, gL_sM, aI_sI, aI_sL, aI_sA, aI_sM, aL_sI, aL_sL, aL_sA, aL_sM, gI_em, gI_emx, gI_pu, gI_wh, Bexpression_0, Bexpression_14, Bexpression_18, Bexpression_26, Bexpression_28, Bexpression_35, Bexpression_43, Bexpression_50, Bexpression_52, Bexpression_65, oi_0, oi_1, P_behind, P_operand]; try dsimp only
                refine ⟨Or.inl rfl, ?_⟩
                exact ⟨_, rfl, Or.inl ⟨rfl, hf1 σ hX1⟩⟩
              · dsimp only [Option.toList, List.cons_append, List.nil_append, Nat.beq, gI_sI, gI_sL, gI_sA, gI_sM, gL_sI, gL_sL, gL_sA, gL_sM, aI_sI, aI_sL, aI_sA, aI_sM, aL_sI, aL_sL, aL_sA, aL_sM, gI_em, gI_emx, gI_pu, gI_wh]
                refine ⟨fun h3 => ?_, fun h3 => absurd h3 (by decide)⟩
                clear h3
                apply hB
                dsimp only [rgo, rfd, Bexpression, Nat.beq, rwp, rst, lv_args, rlk, rs1, rs2, rdl, rky, rct, rcs, rcd, rno, rsw, Value.category, List.filter, List.take, List.drop, List.reverse, List.reverseAux, List.cons_append, List.nil_append, Option.toList, Int.toNat, Int.reduceToNat, if_pos, if_neg, reduceIte, ↓reduceIte, Nat.reduceAdd, Nat.reduceEqDiff, Nat.reduceBEq, beq_self_eq_true, Bool.not_true, Bool.not_false, Bool.and_true, Bool.and_false, Bool.true_and, Bool.false_and, gI_sI, gI_sL, gI_sA, gI_sM, gL_sI, gL_sL, gL_sA, gL_sM, aI_sI, aI_sL, aI_sA, aI_sM, aL_sI, aL_sL, aL_sA, aL_sM, gI_em, gI_emx, gI_pu, gI_wh, Bexpression_0, Bexpression_14, Bexpression_18, Bexpression_26, Bexpression_28, Bexpression_35, Bexpression_43, Bexpression_50, Bexpression_52, Bexpression_65, oi_0, oi_1, P_behind, P_operand]; try dsimp only
                refine ⟨rfl, rfl, ?_⟩
                rcases hr1 σ hX1 with ⟨hw2, hX2, hb2, hp2⟩ | ⟨hw2, hX2, ho2, hp2⟩
                · have nn2 := hX2.nums
                  rw [hw2]
                  refine hW 14 [(0, .ref 1000), (1, .int (gI τ1 35)), (2, .int 1)] _ _ _ (by simp) (ih _ (mlt hn (show gI τ 14 < gI τ1 14 by lia) (by lia)) _ rfl hX2 (by lia) _ hb2)
                · have nn2 := hX2.nums
                  rw [hw2]
                  refine hW 14 [(0, .ref 1000), (2, .int 0)] _ _ _ (by simp) (out _ hX2 ho2 (by lia))
      apply hB
      dsimp only [rgo, rfd, Bexpression, Nat.beq, rwp, rst, lv_args, rlk, rs1, rs2, rdl, rky, rct, rcs, rcd, rno, rsw, Value.category, List.filter, List.take, List.drop, List.reverse, List.reverseAux, List.cons_append, List.nil_append, Option.toList, Int.toNat, Int.reduceToNat, if_pos, if_neg, reduceIte, ↓reduceIte, Nat.reduceAdd, Nat.reduceEqDiff, Nat.reduceBEq, beq_self_eq_true, Bool.not_true, Bool.not_false, Bool.and_true, Bool.and_false, Bool.true_and, Bool.false_and, gI_sI, gI_sL, gI_sA, gI_sM, gL_sI, gL_sL, gL_sA, gL_sM, aI_sI, aI_sL, aI_sA, aI_sM, aL_sI, aL_sL, aL_sA, aL_sM, gI_em, gI_emx, gI_pu, gI_wh, Bexpression_0, Bexpression_14, Bexpression_18, Bexpression_26, Bexpression_28, Bexpression_35, Bexpression_43, Bexpression_50, Bexpression_52, Bexpression_65, oi_0, oi_1, P_behind, P_operand]; try dsimp only
      refine ⟨rfl, rfl, ?_⟩
      refine hW 14 [(0, .ref 1000), (1, .int 1), (2, .int 1)] _ _ _ (by simp) (loop _ _ rfl (XI.start hP) (by show gI σ 14 ≤ gI σ 14; exact Int32.le_refl _) 1 (Or.inr rfl))
    next => exact hP.elim
theorem m_expression (l : Launch) : RMet l 6 27 P_expression Q_expression := by
  refine RMet.by Bexpression [(34, P_behind, Q_behind), (29, P_operand, Q_operand)] roexpression okBexpression (ctc (m_behind l) (by decide) (ctc (m_operand l) (by decide) ct0)) ?_ b_expression
  · intro As σ hP
    unfold P_expression at hP
    split at hP
    next => exact Nat.le_of_ble_eq_true rfl
    next => exact hP.elim
set_option maxRecDepth 100000 in
theorem e_expression (l : Launch) : RMetE l 6 27 P_expression Q_expression := by
  refine RMetE.by Bexpression [(34, P_behind, Q_behind), (29, P_operand, Q_operand)] rfl rfl roexpression okBexpression (ctEc (e_behind l) (by decide) (ctEc (e_operand l) (by decide) ctE0)) ?_ b_expression
  · intro As σ hP
    unfold P_expression at hP
    split at hP
    next => exact Nat.le_of_ble_eq_true rfl
    next => exact hP.elim
