def zz (σ : RS) : RS := sI (sI (sI (sI (sI (sI (sI σ 36 0) 42 0) 49 0) 18 0) 14 0) 15 0) 17 0
theorem PI.zero {σ : RS} (hg : GZ σ) : PI (sI (zz σ) 62 0) [] ([], 0) 12 1 := by
  have n0 : nT (0 : Int32) = 0 := by decide
  have z0 : (0 : Int32).toInt = 0 := rfl
  have e14 : gI (sI (zz σ) 62 0) 14 = 0 := rfl
  have e18 : gI (sI (zz σ) 62 0) 18 = 0 := rfl
  have e17 : gI (sI (zz σ) 62 0) 17 = 0 := rfl
  have e62 : gI (sI (zz σ) 62 0) 62 = 0 := rfl
  have e49 : gI (sI (zz σ) 62 0) 49 = 0 := rfl
  have e42 : gI (sI (zz σ) 62 0) 42 = 0 := rfl
  have e36 : gI (sI (zz σ) 62 0) 36 = 0 := rfl
  unfold PI CE TI UP FI VT MT ZB NB JI AG
  rw [e14, e18, e17, e62, e49, e42, e36, n0, z0]
  refine ⟨⟨by omega, by omega, by omega, ⟨fun i hi => absurd hi (Nat.not_lt_zero i), hg.same rfl rfl rfl⟩, ?_⟩, rfl, rfl, fun c hc => absurd hc (Nat.not_lt_zero c), ⟨fun r _ _ q hq => absurd hq (Nat.not_lt_zero q), fun q hq => absurd hq (Nat.not_lt_zero q)⟩, fun c d _ hd => absurd hd (Nat.not_lt_zero d), ⟨by decide, fun i hi => absurd hi (Nat.not_lt_zero i)⟩, ⟨by decide, fun i hi => absurd hi (Nat.not_lt_zero i)⟩, ⟨by decide, fun i hi => absurd hi (Nat.not_lt_zero i)⟩, ⟨?_, fun i hi => ?_⟩, fun c hc => absurd hc (Nat.not_lt_zero c), fun c hc => absurd hc (Nat.not_lt_zero c)⟩
  · show 0 ≤ (0 : Int) ∧ (0 : Int) + ((0 : Nat) : Int) + 1 ≤ 0 + 1 ∧ (0 : Int) ≤ 1
    omega
  · show ((0 : Nat) : Int) ≤ 4 * 0
    omega
  · obtain rfl : i = 0 := by omega
    refine ⟨fun z hz => ?_, fun s hs => ?_⟩
    · obtain rfl := Option.some.inj hz
      exact Nat.zero_le _
    · obtain rfl := Option.some.inj hs
      exact ⟨Nat.zero_le _, Nat.zero_le _⟩
def P_parse : RP := fun As σ => match As with
  | [] => GZ σ
  | _ => False
def Q_parse : RQ := fun As σ w τ => match As with
  | [] => ∃ r : Int32, w = some (.int r) ∧ ((r = 0 ∧ Fq (zz σ) τ) ∨ (r = 1 ∧ Fq (zz σ) τ ∧ ∃ mn k j, PI (sI τ 62 0) [] ([], mn) k j ∧ mn = nT (gI τ 36)))
  | _ => False
set_option maxRecDepth 100000 in
set_option maxHeartbeats 4000000 in
theorem b_parse : Bod Bparse [(38, P_method, Q_method)] P_parse Q_parse := by
  · intro As σ hP G hB hW
    unfold P_parse at hP
    split at hP
    next => 
      unfold Q_parse at hB
      dsimp only at hB
      have loop : ∀ n : Nat, ∀ τ : RS, (500 - (gI τ 14).toInt).toNat = n → (∃ mn k j, PI (sI τ 62 0) [] ([], mn) k j ∧ k ≤ 12 ∧ 1 ≤ j ∧ mn = nT (gI τ 36)) → Fq (zz σ) τ → G 35 [(0, .ref 1000)] [] τ := by
        intro n
        induction n using Nat.strongRecOn with
        | ind n loop =>
          rintro τ hn ⟨mn, k, j, ha, hb, hc, hd⟩ hFq
          have n14 : 0 ≤ gI τ 14 ∧ gI τ 14 ≤ 500 := ha.nums.1
          apply hB
          dsimp only [rgo, rfd, Bparse, Nat.beq, rwp, rst, lv_args, rlk, rs1, rs2, rdl, rky, rct, rcs, rcd, rno, rsw, Value.category, List.filter, List.take, List.drop, List.reverse, List.reverseAux, List.cons_append, List.nil_append, Option.toList, Int.toNat, Int.reduceToNat, if_pos, if_neg, reduceIte, ↓reduceIte, Nat.reduceAdd, Nat.reduceEqDiff, Nat.reduceBEq, beq_self_eq_true, Bool.not_true, Bool.not_false, Bool.and_true, Bool.and_false, Bool.true_and, Bool.false_and, gI_sI, gI_sL, gI_sA, gI_sM, gL_sI, gL_sL, gL_sA, gL_sM, aI_sI, aI_sL, aI_sA, aI_sM, aL_sI, aL_sL, aL_sA, aL_sM, gI_em, gI_emx, gI_pu, gI_wh, Bparse_0, Bparse_35, Bparse_47, Bparse_54, Bparse_56, oi_0, oi_1, P_method]; try dsimp only
          refine ⟨rfl, rfl, rfl, (in_3 (by lia) (by lia)), fun h1 => ?_, fun h1 => ?_⟩
          · apply hB
            dsimp only [rgo, rfd, Bparse, Nat.beq, rwp, rst, lv_args, rlk, rs1, rs2, rdl, rky, rct, rcs, rcd, rno, rsw, Value.category, List.filter, List.take, List.drop, List.reverse, List.reverseAux, List.cons_append, List.nil_append, Option.toList, Int.toNat, Int.reduceToNat, if_pos, if_neg, reduceIte, ↓reduceIte, Nat.reduceAdd, Nat.reduceEqDiff, Nat.reduceBEq, beq_self_eq_true, Bool.not_true, Bool.not_false, Bool.and_true, Bool.and_false, Bool.true_and, Bool.false_and, gI_sI, gI_sL, gI_sA, gI_sM, gL_sI, gL_sL, gL_sA, gL_sM, aI_sI, aI_sL, aI_sA, aI_sM, aL_sI, aL_sL, aL_sA, aL_sM, gI_em, gI_emx, gI_pu, gI_wh, Bparse_0, Bparse_35, Bparse_47, Bparse_54, Bparse_56, oi_0, oi_1, P_method]; try dsimp only
            refine ⟨Or.inr rfl, ?_⟩
            exact ⟨_, rfl, Or.inr ⟨rfl, hFq, mn, k, j, ha, hd⟩⟩
          · apply hB
            dsimp only [rgo, rfd, Bparse, Nat.beq, rwp, rst, lv_args, rlk, rs1, rs2, rdl, rky, rct, rcs, rcd, rno, rsw, Value.category, List.filter, List.take, List.drop, List.reverse, List.reverseAux, List.cons_append, List.nil_append, Option.toList, Int.toNat, Int.reduceToNat, if_pos, if_neg, reduceIte, ↓reduceIte, Nat.reduceAdd, Nat.reduceEqDiff, Nat.reduceBEq, beq_self_eq_true, Bool.not_true, Bool.not_false, Bool.and_true, Bool.and_false, Bool.true_and, Bool.false_and, gI_sI, gI_sL, gI_sA, gI_sM, gL_sI, gL_sL, gL_sA, gL_sM, aI_sI, aI_sL, aI_sA, aI_sM, aL_sI, aL_sL, aL_sA, aL_sM, gI_em, gI_emx, gI_pu, gI_wh, Bparse_0, Bparse_35, Bparse_47, Bparse_54, Bparse_56, oi_0, oi_1, P_method]; try dsimp only
            refine ⟨rfl, (by decide), (⟨mn, k, j, ha, hb, hc, hd⟩), fun w2 τ2 hq2 => ?_⟩
            obtain ⟨r2, rfl, hq2⟩ := hq2
            rcases hq2 with ⟨rfl, hf2⟩ | ⟨rfl, hf2, hx2, hlt2⟩
            · dsimp only [Option.toList, List.cons_append, List.nil_append, Nat.beq, gI_sI, gI_sL, gI_sA, gI_sM, gL_sI, gL_sL, gL_sA, gL_sM, aI_sI, aI_sL, aI_sA, aI_sM, aL_sI, aL_sL, aL_sA, aL_sM, gI_em, gI_emx, gI_pu, gI_wh]
              refine ⟨fun h3 => absurd h3 (by decide), fun h3 => ?_⟩
              clear h3
              apply hB
              dsimp only [rgo, rfd, Bparse, Nat.beq, rwp, rst, lv_args, rlk, rs1, rs2, rdl, rky, rct, rcs, rcd, rno, rsw, Value.category, List.filter, List.take, List.drop, List.reverse, List.reverseAux, List.cons_append, List.nil_append, Option.toList, Int.toNat, Int.reduceToNat, if_pos, if_neg, reduceIte, ↓reduceIte, Nat.reduceAdd, Nat.reduceEqDiff, Nat.reduceBEq, beq_self_eq_true, Bool.not_true, Bool.not_false, Bool.and_true, Bool.and_false, Bool.true_and, Bool.false_and, gI_sI, gI_sL, gI_sA, gI_sM, gL_sI, gL_sL, gL_sA, gL_sM, aI_sI, aI_sL, aI_sA, aI_sM, aL_sI, aL_sL, aL_sA, aL_sM, gI_em, gI_emx, gI_pu, gI_wh, Bparse_0, Bparse_35, Bparse_47, Bparse_54, Bparse_56, oi_0, oi_1, P_method]; try dsimp only
              refine ⟨Or.inl rfl, ?_⟩
              exact ⟨_, rfl, Or.inl ⟨rfl, hFq.tr hf2⟩⟩
            · dsimp only [Option.toList, List.cons_append, List.nil_append, Nat.beq, gI_sI, gI_sL, gI_sA, gI_sM, gL_sI, gL_sL, gL_sA, gL_sM, aI_sI, aI_sL, aI_sA, aI_sM, aL_sI, aL_sL, aL_sA, aL_sM, gI_em, gI_emx, gI_pu, gI_wh]
              refine ⟨fun h4 => ?_, fun h4 => absurd h4 (by decide)⟩
              clear h4
              refine hW 35 [(0, .ref 1000)] _ _ _ (by simp) (loop _ ?_ τ2 rfl ?_ (hFq.tr hf2))
              · obtain ⟨mn', -, hpi⟩ := hx2 mn k j ha hb hc hd
                exact mlt hn hlt2 hpi.nums.1.2
              · obtain ⟨mn', hle, hpi⟩ := hx2 mn k j ha hb hc hd
                exact ⟨mn', k, j, hpi, hb, hc, hle⟩
      apply hB
      dsimp only [rgo, rfd, Bparse, Nat.beq, rwp, rst, lv_args, rlk, rs1, rs2, rdl, rky, rct, rcs, rcd, rno, rsw, Value.category, List.filter, List.take, List.drop, List.reverse, List.reverseAux, List.cons_append, List.nil_append, Option.toList, Int.toNat, Int.reduceToNat, if_pos, if_neg, reduceIte, ↓reduceIte, Nat.reduceAdd, Nat.reduceEqDiff, Nat.reduceBEq, beq_self_eq_true, Bool.not_true, Bool.not_false, Bool.and_true, Bool.and_false, Bool.true_and, Bool.false_and, gI_sI, gI_sL, gI_sA, gI_sM, gL_sI, gL_sL, gL_sA, gL_sM, aI_sI, aI_sL, aI_sA, aI_sM, aL_sI, aL_sL, aL_sA, aL_sM, gI_em, gI_emx, gI_pu, gI_wh, Bparse_0, Bparse_35, Bparse_47, Bparse_54, Bparse_56, oi_0, oi_1, P_method]; try dsimp only
      refine ⟨rfl, rfl, rfl, rfl, rfl, rfl, rfl, ?_⟩
      exact hW 35 [(0, .ref 1000)] _ _ _ (by simp) (loop _ (zz σ) rfl ⟨0, 12, 1, PI.zero hP, by omega, by omega, (show 0 = nT (0 : Int32) by decide)⟩ Fq.rf)
    next => exact hP.elim
theorem m_parse (l : Launch) : RMet l 13 37 P_parse Q_parse := by
  refine RMet.by Bparse [(38, P_method, Q_method)] roparse okBparse (ctc (m_method l) (by decide) ct0) ?_ b_parse
  · intro As σ hP
    unfold P_parse at hP
    split at hP
    next => exact Nat.le_of_ble_eq_true rfl
    next => exact hP.elim
set_option maxRecDepth 100000 in
theorem e_parse (l : Launch) : RMetE l 13 37 P_parse Q_parse := by
  refine RMetE.by Bparse [(38, P_method, Q_method)] rfl rfl roparse okBparse (ctEc (e_method l) (by decide) ctE0) ?_ b_parse
  · intro As σ hP
    unfold P_parse at hP
    split at hP
    next => exact Nat.le_of_ble_eq_true rfl
    next => exact hP.elim
