theorem JQ.fj {σ τ : RS} {c : Int32} (h : JQ σ τ c) : Fj σ τ := by
  rcases h with ⟨-, h⟩ | ⟨-, h⟩ | ⟨-, h⟩ | ⟨-, h⟩ | ⟨-, h⟩ | ⟨-, h⟩ | ⟨-, h⟩ | ⟨-, h⟩ | ⟨-, h⟩
  · exact h.1.j
  · exact h.1.j
  · exact h.1.j
  · exact h.1.j
  · exact h.1.j
  · exact h.1.j
  · exact h.1.j
  · exact h.1.j
  · rw [h]; exact Fj.rf
theorem SQ.fj {σ τ : RS} {c : Int32} (h : SQ σ τ c) : Fj σ τ := by
  rcases h with ⟨-, h, -⟩ | ⟨-, h, -⟩ | ⟨-, h, -⟩ | ⟨-, h, -⟩ | ⟨-, h, -⟩ | ⟨-, h, -⟩ | ⟨-, h, -⟩ | ⟨-, h, -⟩ | ⟨-, h, -⟩ | ⟨-, h⟩
  · exact h.1
  · exact h.1
  · exact h.1
  · exact h.1
  · exact h.1
  · exact h.1
  · exact h.1
  · exact h.1
  · exact h.1
  · rw [h]; exact Fj.rf
def P_judgeAll : RP := fun As σ => match As with
  | [] => PD σ ∧ gI σ 91 = 0 ∧ (0 ≤ (gI σ 2) ∧ (gI σ 2) ≤ 2590)
  | _ => False
def Q_judgeAll : RQ := fun As σ w τ => match As with
  | [] => w = none ∧ JD τ ∧ (∃ X, Fj (sI σ 68 1) X ∧ Fu X τ)
  | _ => False
set_option maxRecDepth 100000 in
set_option maxHeartbeats 4000000 in
theorem b_judgeAll : Bod BjudgeAll [(70, P_err, Q_err), (71, P_find, Q_find), (113, P_flow, Q_flow), (88, P_judgeExp, Q_judgeExp), (105, P_judgeStep, Q_judgeStep), (87, P_methodsTold, Q_methodsTold)] P_judgeAll Q_judgeAll := by
  · intro As σ hP G hB hW
    unfold P_judgeAll at hP
    split at hP
    next => 
      unfold Q_judgeAll at hB
      dsimp only at hB
      obtain ⟨hD0, h910, hcnt0⟩ := hP
      obtain ⟨S, hS⟩ : ∃ x, x = sI σ 68 1 := ⟨_, rfl⟩
      have hD : PD S := by rw [hS]; exact hD0.s68
      have h91 : gI S 91 = 0 := by rw [hS]; exact h910
      have hcnt : 0 ≤ gI S 2 ∧ gI S 2 ≤ 2590 := by rw [hS]; exact hcnt0
      have h68S : gI S 68 = 1 := by rw [hS]; rfl
      have hK := hD.k
      have n42 := hK.j.v
      have n18 : 0 ≤ gI S 18 ∧ gI S 18 ≤ 3020 := by
        obtain ⟨fk, kk, jk, hpk⟩ := hK
        exact hpk.nums.2.1
      have n18b := n18.2
      have n18 := n18.1
      have t173 : ∀ (X : RS) (c : Nat), J1 S X c → nT (gI S 18) ≤ c → G 173 [(0, .ref 1000)] [] X := by
        intro X c hj1 hc
        apply hB
        dsimp only [rgo, rfd, BjudgeAll, Nat.beq, rwp, rst, lv_args, rlk, rs1, rs2, rdl, rky, rct, rcs, rcd, rno, rsw, Value.category, List.filter, List.take, List.drop, List.reverse, List.reverseAux, List.cons_append, List.nil_append, Option.toList, Int.toNat, Int.reduceToNat, if_pos, if_neg, reduceIte, ↓reduceIte, Nat.reduceAdd, Nat.reduceEqDiff, Nat.reduceBEq, beq_self_eq_true, Bool.not_true, Bool.not_false, Bool.and_true, Bool.and_false, Bool.true_and, Bool.false_and, gI_sI, gI_sL, gI_sA, gI_sM, gL_sI, gL_sL, gL_sA, gL_sM, aI_sI, aI_sL, aI_sA, aI_sM, aL_sI, aL_sL, aL_sA, aL_sM, BjudgeAll_0, BjudgeAll_33, BjudgeAll_41, BjudgeAll_55, BjudgeAll_61, BjudgeAll_69, BjudgeAll_111, BjudgeAll_122, BjudgeAll_128, BjudgeAll_135, BjudgeAll_143, BjudgeAll_154, BjudgeAll_162, BjudgeAll_167, BjudgeAll_173, BjudgeAll_180, BjudgeAll_184, oi_0, oi_1, oi_18, oi_2, oi_m2, P_err, P_find, P_flow, P_judgeExp, P_judgeStep, P_methodsTold]; try dsimp only
        refine ⟨rfl, fun h1 => ?_, fun h1 => ?_⟩
        · apply hB
          dsimp only [rgo, rfd, BjudgeAll, Nat.beq, rwp, rst, lv_args, rlk, rs1, rs2, rdl, rky, rct, rcs, rcd, rno, rsw, Value.category, List.filter, List.take, List.drop, List.reverse, List.reverseAux, List.cons_append, List.nil_append, Option.toList, Int.toNat, Int.reduceToNat, if_pos, if_neg, reduceIte, ↓reduceIte, Nat.reduceAdd, Nat.reduceEqDiff, Nat.reduceBEq, beq_self_eq_true, Bool.not_true, Bool.not_false, Bool.and_true, Bool.and_false, Bool.true_and, Bool.false_and, gI_sI, gI_sL, gI_sA, gI_sM, gL_sI, gL_sL, gL_sA, gL_sM, aI_sI, aI_sL, aI_sA, aI_sM, aL_sI, aL_sL, aL_sA, aL_sM, BjudgeAll_0, BjudgeAll_33, BjudgeAll_41, BjudgeAll_55, BjudgeAll_61, BjudgeAll_69, BjudgeAll_111, BjudgeAll_122, BjudgeAll_128, BjudgeAll_135, BjudgeAll_143, BjudgeAll_154, BjudgeAll_162, BjudgeAll_167, BjudgeAll_173, BjudgeAll_180, BjudgeAll_184, oi_0, oi_1, oi_18, oi_2, oi_m2, P_err, P_find, P_flow, P_judgeExp, P_judgeStep, P_methodsTold]; try dsimp only
          exact ⟨rfl, hj1.jd hK hc, X, hS ▸ hj1.1, Fu.rf⟩
        · apply hB
          dsimp only [rgo, rfd, BjudgeAll, Nat.beq, rwp, rst, lv_args, rlk, rs1, rs2, rdl, rky, rct, rcs, rcd, rno, rsw, Value.category, List.filter, List.take, List.drop, List.reverse, List.reverseAux, List.cons_append, List.nil_append, Option.toList, Int.toNat, Int.reduceToNat, if_pos, if_neg, reduceIte, ↓reduceIte, Nat.reduceAdd, Nat.reduceEqDiff, Nat.reduceBEq, beq_self_eq_true, Bool.not_true, Bool.not_false, Bool.and_true, Bool.and_false, Bool.true_and, Bool.false_and, gI_sI, gI_sL, gI_sA, gI_sM, gL_sI, gL_sL, gL_sA, gL_sM, aI_sI, aI_sL, aI_sA, aI_sM, aL_sI, aL_sL, aL_sA, aL_sM, BjudgeAll_0, BjudgeAll_33, BjudgeAll_41, BjudgeAll_55, BjudgeAll_61, BjudgeAll_69, BjudgeAll_111, BjudgeAll_122, BjudgeAll_128, BjudgeAll_135, BjudgeAll_143, BjudgeAll_154, BjudgeAll_162, BjudgeAll_167, BjudgeAll_173, BjudgeAll_180, BjudgeAll_184, oi_0, oi_1, oi_18, oi_2, oi_m2, P_err, P_find, P_flow, P_judgeExp, P_judgeStep, P_methodsTold]; try dsimp only
          refine ⟨rfl, (by decide), (⟨hK.fj hj1.1, by rw [hj1.1.1 2 rfl]; exact hcnt, ((hj1.jd hK hc).2.2.2 (by assumption)).1⟩), fun w2 τ2 hq2 => ?_⟩
          have hw2 := hq2.1
          subst hw2
          dsimp only [Option.toList, List.cons_append, List.nil_append, Nat.beq, gI_sI, gI_sL, gI_sA, gI_sM, gL_sI, gL_sL, gL_sA, gL_sM, aI_sI, aI_sL, aI_sA, aI_sM, aL_sI, aL_sL, aL_sA, aL_sM]
          apply hB
          dsimp only [rgo, rfd, BjudgeAll, Nat.beq, rwp, rst, lv_args, rlk, rs1, rs2, rdl, rky, rct, rcs, rcd, rno, rsw, Value.category, List.filter, List.take, List.drop, List.reverse, List.reverseAux, List.cons_append, List.nil_append, Option.toList, Int.toNat, Int.reduceToNat, if_pos, if_neg, reduceIte, ↓reduceIte, Nat.reduceAdd, Nat.reduceEqDiff, Nat.reduceBEq, beq_self_eq_true, Bool.not_true, Bool.not_false, Bool.and_true, Bool.and_false, Bool.true_and, Bool.false_and, gI_sI, gI_sL, gI_sA, gI_sM, gL_sI, gL_sL, gL_sA, gL_sM, aI_sI, aI_sL, aI_sA, aI_sM, aL_sI, aL_sL, aL_sA, aL_sM, BjudgeAll_0, BjudgeAll_33, BjudgeAll_41, BjudgeAll_55, BjudgeAll_61, BjudgeAll_69, BjudgeAll_111, BjudgeAll_122, BjudgeAll_128, BjudgeAll_135, BjudgeAll_143, BjudgeAll_154, BjudgeAll_162, BjudgeAll_167, BjudgeAll_173, BjudgeAll_180, BjudgeAll_184, oi_0, oi_1, oi_18, oi_2, oi_m2, P_err, P_find, P_flow, P_judgeExp, P_judgeStep, P_methodsTold]; try dsimp only
          obtain ⟨-, hfv⟩ := hq2
          exact ⟨rfl, (hj1.jd hK hc).fv hfv (fun _ => by assumption), X, hS ▸ hj1.1, hfv⟩
      have loop : ∀ n : Nat, ∀ (X : RS) (c : Int32), (4000 - c.toInt).toNat = n → 0 ≤ c → J1 S X (nT c) → G 135 [(0, .ref 1000), (1, .int c)] [] X := by
        intro n
        induction n using Nat.strongRecOn with
        | ind n loop =>
          intro X c hk h0 hj1
          have x18 : gI X 18 = gI S 18 := hj1.1.1 18 rfl
          have hPX := hK.j.fj hj1.1
          apply hB
          dsimp only [rgo, rfd, BjudgeAll, Nat.beq, rwp, rst, lv_args, rlk, rs1, rs2, rdl, rky, rct, rcs, rcd, rno, rsw, Value.category, List.filter, List.take, List.drop, List.reverse, List.reverseAux, List.cons_append, List.nil_append, Option.toList, Int.toNat, Int.reduceToNat, if_pos, if_neg, reduceIte, ↓reduceIte, Nat.reduceAdd, Nat.reduceEqDiff, Nat.reduceBEq, beq_self_eq_true, Bool.not_true, Bool.not_false, Bool.and_true, Bool.and_false, Bool.true_and, Bool.false_and, gI_sI, gI_sL, gI_sA, gI_sM, gL_sI, gL_sL, gL_sA, gL_sM, aI_sI, aI_sL, aI_sA, aI_sM, aL_sI, aL_sL, aL_sA, aL_sM, BjudgeAll_0, BjudgeAll_33, BjudgeAll_41, BjudgeAll_55, BjudgeAll_61, BjudgeAll_69, BjudgeAll_111, BjudgeAll_122, BjudgeAll_128, BjudgeAll_135, BjudgeAll_143, BjudgeAll_154, BjudgeAll_162, BjudgeAll_167, BjudgeAll_173, BjudgeAll_180, BjudgeAll_184, oi_0, oi_1, oi_18, oi_2, oi_m2, P_err, P_find, P_flow, P_judgeExp, P_judgeStep, P_methodsTold]; try dsimp only
          refine ⟨rfl, fun h1 => ?_, fun h1 => ?_⟩
          · exact hW 173 [(0, .ref 1000)] _ _ _ (by simp [rdl, rky]) (t173 X (nT c) hj1 (by rw [← x18]; exact nT_le (by show 0 ≤ gI X 18; rw [x18]; exact n18) (by lia)))
          · have hcn : nT c < nT (gI X 18) := nT_lt h0 (by lia)
            obtain ⟨hF, h68, hcl, E0, s0, g1, g2, hJ⟩ := hj1
            obtain ⟨E, E', s, s', p⟩ := hPX.pc hcn
            obtain rfl : E = E0 := Option.some.inj (p.he.symm.trans g1)
            obtain rfl : s = s0 := Option.some.inj (p.hs.symm.trans g2)
            have hp4 := p.c4
            have hc40 : c < 4000 := t_lt (by have := t_nT h0; show _ < (4000 : Int); omega)
            have nC : nT (c + 1) = nT c + 1 := nT_add h0 (by lia)
            have hLI := hJ.li p
            have hcn2 : nT c < nT (gI S 18) := by rw [← x18]; exact hcn
            apply hB
            dsimp only [rgo, rfd, BjudgeAll, Nat.beq, rwp, rst, lv_args, rlk, rs1, rs2, rdl, rky, rct, rcs, rcd, rno, rsw, Value.category, List.filter, List.take, List.drop, List.reverse, List.reverseAux, List.cons_append, List.nil_append, Option.toList, Int.toNat, Int.reduceToNat, if_pos, if_neg, reduceIte, ↓reduceIte, Nat.reduceAdd, Nat.reduceEqDiff, Nat.reduceBEq, beq_self_eq_true, Bool.not_true, Bool.not_false, Bool.and_true, Bool.and_false, Bool.true_and, Bool.false_and, gI_sI, gI_sL, gI_sA, gI_sM, gL_sI, gL_sL, gL_sA, gL_sM, aI_sI, aI_sL, aI_sA, aI_sM, aL_sI, aL_sL, aL_sA, aL_sM, BjudgeAll_0, BjudgeAll_33, BjudgeAll_41, BjudgeAll_55, BjudgeAll_61, BjudgeAll_69, BjudgeAll_111, BjudgeAll_122, BjudgeAll_128, BjudgeAll_135, BjudgeAll_143, BjudgeAll_154, BjudgeAll_162, BjudgeAll_167, BjudgeAll_173, BjudgeAll_180, BjudgeAll_184, oi_0, oi_1, oi_18, oi_2, oi_m2, P_err, P_find, P_flow, P_judgeExp, P_judgeStep, P_methodsTold]; try dsimp only
            refine ⟨rfl, rfl, (in_19 (by lia) (by lia)), fun h2 => ?_, fun h2 => ?_⟩
            · have ho19 : 19 ≤ aI X 19 c.toNatClampNeg := by lia
              apply hB
              dsimp only [rgo, rfd, BjudgeAll, Nat.beq, rwp, rst, lv_args, rlk, rs1, rs2, rdl, rky, rct, rcs, rcd, rno, rsw, Value.category, List.filter, List.take, List.drop, List.reverse, List.reverseAux, List.cons_append, List.nil_append, Option.toList, Int.toNat, Int.reduceToNat, if_pos, if_neg, reduceIte, ↓reduceIte, Nat.reduceAdd, Nat.reduceEqDiff, Nat.reduceBEq, beq_self_eq_true, Bool.not_true, Bool.not_false, Bool.and_true, Bool.and_false, Bool.true_and, Bool.false_and, gI_sI, gI_sL, gI_sA, gI_sM, gL_sI, gL_sL, gL_sA, gL_sM, aI_sI, aI_sL, aI_sA, aI_sM, aL_sI, aL_sL, aL_sA, aL_sM, BjudgeAll_0, BjudgeAll_33, BjudgeAll_41, BjudgeAll_55, BjudgeAll_61, BjudgeAll_69, BjudgeAll_111, BjudgeAll_122, BjudgeAll_128, BjudgeAll_135, BjudgeAll_143, BjudgeAll_154, BjudgeAll_162, BjudgeAll_167, BjudgeAll_173, BjudgeAll_180, BjudgeAll_184, oi_0, oi_1, oi_18, oi_2, oi_m2, P_err, P_find, P_flow, P_judgeExp, P_judgeStep, P_methodsTold]; try dsimp only
              refine ⟨rfl, (by decide), (⟨⟨hLI, p.co h0⟩, PC.sp hJ p hPX ho19⟩), fun w3 τ3 hq3 => ?_⟩
              have hw3 := hq3.1
              subst hw3
              dsimp only [Option.toList, List.cons_append, List.nil_append, Nat.beq, gI_sI, gI_sL, gI_sA, gI_sM, gL_sI, gL_sL, gL_sA, gL_sM, aI_sI, aI_sL, aI_sA, aI_sM, aL_sI, aL_sL, aL_sA, aL_sM]
              apply hB
              dsimp only [rgo, rfd, BjudgeAll, Nat.beq, rwp, rst, lv_args, rlk, rs1, rs2, rdl, rky, rct, rcs, rcd, rno, rsw, Value.category, List.filter, List.take, List.drop, List.reverse, List.reverseAux, List.cons_append, List.nil_append, Option.toList, Int.toNat, Int.reduceToNat, if_pos, if_neg, reduceIte, ↓reduceIte, Nat.reduceAdd, Nat.reduceEqDiff, Nat.reduceBEq, beq_self_eq_true, Bool.not_true, Bool.not_false, Bool.and_true, Bool.and_false, Bool.true_and, Bool.false_and, gI_sI, gI_sL, gI_sA, gI_sM, gL_sI, gL_sL, gL_sA, gL_sM, aI_sI, aI_sL, aI_sA, aI_sM, aL_sI, aL_sL, aL_sA, aL_sM, BjudgeAll_0, BjudgeAll_33, BjudgeAll_41, BjudgeAll_55, BjudgeAll_61, BjudgeAll_69, BjudgeAll_111, BjudgeAll_122, BjudgeAll_128, BjudgeAll_135, BjudgeAll_143, BjudgeAll_154, BjudgeAll_162, BjudgeAll_167, BjudgeAll_173, BjudgeAll_180, BjudgeAll_184, oi_0, oi_1, oi_18, oi_2, oi_m2, P_err, P_find, P_flow, P_judgeExp, P_judgeStep, P_methodsTold]; try dsimp only
              have hj2 := hJ.stm p hPX h0 hcn ho19 hq3.2
              have hF2 := SQ.fj hq3.2
              refine hW 135 [(0, .ref 1000), (1, .int (c + 1))] _ _ _ (by simp [rdl, rky]) (loop _ ?_ _ (c + 1) rfl (by lia) ⟨hF.tr hF2, by rw [hF2.1 68 rfl]; exact h68, by rw [nC]; omega, E', s', ?_, ?_, by rw [nC]; exact hj2⟩)
              · exact mlt4 hk (by lia) (by lia)
              · rw [nC, hF2.2.2.1 19 rfl, hF2.2.2.1 20 rfl, hF2.2.2.1 21 rfl]; exact p.he'
              · rw [nC, hF2.2.2.1 19 rfl, hF2.2.2.1 20 rfl]; exact p.hs'
            · have ho18 : aI X 19 c.toNatClampNeg ≤ 18 := by lia
              have hJP := PC.jp hJ p ho18
              have hCX := PC.cx hJ p h0 (nT_le (y := 18) (by have := p.hce.1.1; lia) ho18)
              apply hB
              dsimp only [rgo, rfd, BjudgeAll, Nat.beq, rwp, rst, lv_args, rlk, rs1, rs2, rdl, rky, rct, rcs, rcd, rno, rsw, Value.category, List.filter, List.take, List.drop, List.reverse, List.reverseAux, List.cons_append, List.nil_append, Option.toList, Int.toNat, Int.reduceToNat, if_pos, if_neg, reduceIte, ↓reduceIte, Nat.reduceAdd, Nat.reduceEqDiff, Nat.reduceBEq, beq_self_eq_true, Bool.not_true, Bool.not_false, Bool.and_true, Bool.and_false, Bool.true_and, Bool.false_and, gI_sI, gI_sL, gI_sA, gI_sM, gL_sI, gL_sL, gL_sA, gL_sM, aI_sI, aI_sL, aI_sA, aI_sM, aL_sI, aL_sL, aL_sA, aL_sM, BjudgeAll_0, BjudgeAll_33, BjudgeAll_41, BjudgeAll_55, BjudgeAll_61, BjudgeAll_69, BjudgeAll_111, BjudgeAll_122, BjudgeAll_128, BjudgeAll_135, BjudgeAll_143, BjudgeAll_154, BjudgeAll_162, BjudgeAll_167, BjudgeAll_173, BjudgeAll_180, BjudgeAll_184, oi_0, oi_1, oi_18, oi_2, oi_m2, P_err, P_find, P_flow, P_judgeExp, P_judgeStep, P_methodsTold]; try dsimp only
              refine ⟨rfl, (by decide), (⟨⟨hLI, hCX⟩, hPX, hJP⟩), fun w4 τ4 hq4 => ?_⟩
              have hw4 := hq4.1
              subst hw4
              dsimp only [Option.toList, List.cons_append, List.nil_append, Nat.beq, gI_sI, gI_sL, gI_sA, gI_sM, gL_sI, gL_sL, gL_sA, gL_sM, aI_sI, aI_sL, aI_sA, aI_sM, aL_sI, aL_sL, aL_sA, aL_sM]
              apply hB
              dsimp only [rgo, rfd, BjudgeAll, Nat.beq, rwp, rst, lv_args, rlk, rs1, rs2, rdl, rky, rct, rcs, rcd, rno, rsw, Value.category, List.filter, List.take, List.drop, List.reverse, List.reverseAux, List.cons_append, List.nil_append, Option.toList, Int.toNat, Int.reduceToNat, if_pos, if_neg, reduceIte, ↓reduceIte, Nat.reduceAdd, Nat.reduceEqDiff, Nat.reduceBEq, beq_self_eq_true, Bool.not_true, Bool.not_false, Bool.and_true, Bool.and_false, Bool.true_and, Bool.false_and, gI_sI, gI_sL, gI_sA, gI_sM, gL_sI, gL_sL, gL_sA, gL_sM, aI_sI, aI_sL, aI_sA, aI_sM, aL_sI, aL_sL, aL_sA, aL_sM, BjudgeAll_0, BjudgeAll_33, BjudgeAll_41, BjudgeAll_55, BjudgeAll_61, BjudgeAll_69, BjudgeAll_111, BjudgeAll_122, BjudgeAll_128, BjudgeAll_135, BjudgeAll_143, BjudgeAll_154, BjudgeAll_162, BjudgeAll_167, BjudgeAll_173, BjudgeAll_180, BjudgeAll_184, oi_0, oi_1, oi_18, oi_2, oi_m2, P_err, P_find, P_flow, P_judgeExp, P_judgeStep, P_methodsTold]; try dsimp only
              have hj2 := hJ.exp p hLI hJP (fun i hi => hPX.cy (by omega)) hq4.2
              have hF2 := JQ.fj hq4.2
              refine hW 135 [(0, .ref 1000), (1, .int (c + 1))] _ _ _ (by simp [rdl, rky]) (loop _ ?_ _ (c + 1) rfl (by lia) ⟨hF.tr hF2, by rw [hF2.1 68 rfl]; exact h68, by rw [nC]; omega, E', s', ?_, ?_, by rw [nC]; exact hj2⟩)
              · exact mlt4 hk (by lia) (by lia)
              · rw [nC, hF2.2.2.1 19 rfl, hF2.2.2.1 20 rfl, hF2.2.2.1 21 rfl]; exact p.he'
              · rw [nC, hF2.2.2.1 19 rfl, hF2.2.2.1 20 rfl]; exact p.hs'
      have t135 : ∀ X : RS, J0 S X → gI X 89 = 0 → G 135 [(0, .ref 1000), (1, .int 0)] [] X := by
        intro X hX h89
        exact loop _ X 0 rfl (by decide) ⟨hX.1, hX.2.1.2.2.2, by show nT 0 ≤ _; exact Nat.zero_le _, [], ([], 0), rfl, rfl, hX.jv hD h91 h89⟩
      have lv : ∀ n : Nat, ∀ (X : RS) (v : Int32), (4000 - v.toInt).toNat = n → J0 S X → (0 ≤ v ∧ v ≤ 60) → G 61 [(0, .ref 1000), (1, .int v)] [] X := by
        intro n
        induction n using Nat.strongRecOn with
        | ind n lv =>
          intro X v hk hX hv
          have hPX := hK.j.fj hX.1
          have x42 : gI X 42 = gI S 42 := hX.1.1 42 rfl
          apply hB
          dsimp only [rgo, rfd, BjudgeAll, Nat.beq, rwp, rst, lv_args, rlk, rs1, rs2, rdl, rky, rct, rcs, rcd, rno, rsw, Value.category, List.filter, List.take, List.drop, List.reverse, List.reverseAux, List.cons_append, List.nil_append, Option.toList, Int.toNat, Int.reduceToNat, if_pos, if_neg, reduceIte, ↓reduceIte, Nat.reduceAdd, Nat.reduceEqDiff, Nat.reduceBEq, beq_self_eq_true, Bool.not_true, Bool.not_false, Bool.and_true, Bool.and_false, Bool.true_and, Bool.false_and, gI_sI, gI_sL, gI_sA, gI_sM, gL_sI, gL_sL, gL_sA, gL_sM, aI_sI, aI_sL, aI_sA, aI_sM, aL_sI, aL_sL, aL_sA, aL_sM, BjudgeAll_0, BjudgeAll_33, BjudgeAll_41, BjudgeAll_55, BjudgeAll_61, BjudgeAll_69, BjudgeAll_111, BjudgeAll_122, BjudgeAll_128, BjudgeAll_135, BjudgeAll_143, BjudgeAll_154, BjudgeAll_162, BjudgeAll_167, BjudgeAll_173, BjudgeAll_180, BjudgeAll_184, oi_0, oi_1, oi_18, oi_2, oi_m2, P_err, P_find, P_flow, P_judgeExp, P_judgeStep, P_methodsTold]; try dsimp only
          refine ⟨rfl, fun h1 => ?_, fun h1 => ?_⟩
          · apply hB
            dsimp only [rgo, rfd, BjudgeAll, Nat.beq, rwp, rst, lv_args, rlk, rs1, rs2, rdl, rky, rct, rcs, rcd, rno, rsw, Value.category, List.filter, List.take, List.drop, List.reverse, List.reverseAux, List.cons_append, List.nil_append, Option.toList, Int.toNat, Int.reduceToNat, if_pos, if_neg, reduceIte, ↓reduceIte, Nat.reduceAdd, Nat.reduceEqDiff, Nat.reduceBEq, beq_self_eq_true, Bool.not_true, Bool.not_false, Bool.and_true, Bool.and_false, Bool.true_and, Bool.false_and, gI_sI, gI_sL, gI_sA, gI_sM, gL_sI, gL_sL, gL_sA, gL_sM, aI_sI, aI_sL, aI_sA, aI_sM, aL_sI, aL_sL, aL_sA, aL_sM, BjudgeAll_0, BjudgeAll_33, BjudgeAll_41, BjudgeAll_55, BjudgeAll_61, BjudgeAll_69, BjudgeAll_111, BjudgeAll_122, BjudgeAll_128, BjudgeAll_135, BjudgeAll_143, BjudgeAll_154, BjudgeAll_162, BjudgeAll_167, BjudgeAll_173, BjudgeAll_180, BjudgeAll_184, oi_0, oi_1, oi_18, oi_2, oi_m2, P_err, P_find, P_flow, P_judgeExp, P_judgeStep, P_methodsTold]; try dsimp only
            refine ⟨rfl, ?_⟩
            exact hW 135 [(0, .ref 1000), (1, .int 0)] _ _ _ (by simp [rdl, rky]) (t135 (sI X 89 0) ⟨hX.1.i rfl, hX.2.1, hX.2.2⟩ rfl)
          · have hvt := hPX.vt (v := v) (by lia) (by lia)
            apply hB
            dsimp only [rgo, rfd, BjudgeAll, Nat.beq, rwp, rst, lv_args, rlk, rs1, rs2, rdl, rky, rct, rcs, rcd, rno, rsw, Value.category, List.filter, List.take, List.drop, List.reverse, List.reverseAux, List.cons_append, List.nil_append, Option.toList, Int.toNat, Int.reduceToNat, if_pos, if_neg, reduceIte, ↓reduceIte, Nat.reduceAdd, Nat.reduceEqDiff, Nat.reduceBEq, beq_self_eq_true, Bool.not_true, Bool.not_false, Bool.and_true, Bool.and_false, Bool.true_and, Bool.false_and, gI_sI, gI_sL, gI_sA, gI_sM, gL_sI, gL_sL, gL_sA, gL_sM, aI_sI, aI_sL, aI_sA, aI_sM, aL_sI, aL_sL, aL_sA, aL_sM, BjudgeAll_0, BjudgeAll_33, BjudgeAll_41, BjudgeAll_55, BjudgeAll_61, BjudgeAll_69, BjudgeAll_111, BjudgeAll_122, BjudgeAll_128, BjudgeAll_135, BjudgeAll_143, BjudgeAll_154, BjudgeAll_162, BjudgeAll_167, BjudgeAll_173, BjudgeAll_180, BjudgeAll_184, oi_0, oi_1, oi_18, oi_2, oi_m2, P_err, P_find, P_flow, P_judgeExp, P_judgeStep, P_methodsTold]; try dsimp only
            refine ⟨rfl, rfl, (in_86 (by lia) (by lia)), Or.inl rfl, rfl, rfl, rfl, (in_43 (by lia) (by lia)), rfl, (in_80 (by lia) (by lia)), rfl, rfl, (in_46 (by lia) (by lia)), rfl, rfl, rfl, (in_43 (by lia) (by lia)), rfl, (by decide), (⟨hPX.fj (by (repeat (first | exact Fj.rf | refine Fj.a ?_ rfl | refine Fj.i ?_ rfl | refine Fj.m ?_ rfl))), by lia, by lia⟩), fun w2 τ2 hq2 => ?_⟩
            obtain ⟨r2, rfl, hr2, e2⟩ := hq2
            obtain rfl := e2.symm
            dsimp only [Option.toList, List.cons_append, List.nil_append, Nat.beq, gI_sI, gI_sL, gI_sA, gI_sM, gL_sI, gL_sL, gL_sA, gL_sM, aI_sI, aI_sL, aI_sA, aI_sM, aL_sI, aL_sL, aL_sA, aL_sM]
            refine ⟨fun h3 => ?_, fun h3 => ?_⟩
            · apply hB
              dsimp only [rgo, rfd, BjudgeAll, Nat.beq, rwp, rst, lv_args, rlk, rs1, rs2, rdl, rky, rct, rcs, rcd, rno, rsw, Value.category, List.filter, List.take, List.drop, List.reverse, List.reverseAux, List.cons_append, List.nil_append, Option.toList, Int.toNat, Int.reduceToNat, if_pos, if_neg, reduceIte, ↓reduceIte, Nat.reduceAdd, Nat.reduceEqDiff, Nat.reduceBEq, beq_self_eq_true, Bool.not_true, Bool.not_false, Bool.and_true, Bool.and_false, Bool.true_and, Bool.false_and, gI_sI, gI_sL, gI_sA, gI_sM, gL_sI, gL_sL, gL_sA, gL_sM, aI_sI, aI_sL, aI_sA, aI_sM, aL_sI, aL_sL, aL_sA, aL_sM, BjudgeAll_0, BjudgeAll_33, BjudgeAll_41, BjudgeAll_55, BjudgeAll_61, BjudgeAll_69, BjudgeAll_111, BjudgeAll_122, BjudgeAll_128, BjudgeAll_135, BjudgeAll_143, BjudgeAll_154, BjudgeAll_162, BjudgeAll_167, BjudgeAll_173, BjudgeAll_180, BjudgeAll_184, oi_0, oi_1, oi_18, oi_2, oi_m2, P_err, P_find, P_flow, P_judgeExp, P_judgeStep, P_methodsTold]; try dsimp only
              refine hW 61 [(0, .ref 1000), (1, .int (v + 1))] _ _ _ (by simp [rdl, rky]) (lv _ ?_ _ (v + 1) rfl ⟨(((hX.1.a rfl).a rfl).i rfl), hX.2.1, hX.2.2⟩ ⟨by lia, by lia⟩)
              exact mlt4 hk (by lia) (by lia)
            · apply hB
              dsimp only [rgo, rfd, BjudgeAll, Nat.beq, rwp, rst, lv_args, rlk, rs1, rs2, rdl, rky, rct, rcs, rcd, rno, rsw, Value.category, List.filter, List.take, List.drop, List.reverse, List.reverseAux, List.cons_append, List.nil_append, Option.toList, Int.toNat, Int.reduceToNat, if_pos, if_neg, reduceIte, ↓reduceIte, Nat.reduceAdd, Nat.reduceEqDiff, Nat.reduceBEq, beq_self_eq_true, Bool.not_true, Bool.not_false, Bool.and_true, Bool.and_false, Bool.true_and, Bool.false_and, gI_sI, gI_sL, gI_sA, gI_sM, gL_sI, gL_sL, gL_sA, gL_sM, aI_sI, aI_sL, aI_sA, aI_sM, aL_sI, aL_sL, aL_sA, aL_sM, BjudgeAll_0, BjudgeAll_33, BjudgeAll_41, BjudgeAll_55, BjudgeAll_61, BjudgeAll_69, BjudgeAll_111, BjudgeAll_122, BjudgeAll_128, BjudgeAll_135, BjudgeAll_143, BjudgeAll_154, BjudgeAll_162, BjudgeAll_167, BjudgeAll_173, BjudgeAll_180, BjudgeAll_184, oi_0, oi_1, oi_18, oi_2, oi_m2, P_err, P_find, P_flow, P_judgeExp, P_judgeStep, P_methodsTold]; try dsimp only
              refine ⟨rfl, rfl, (in_43 (by lia) (by lia)), rfl, (by decide), (⟨⟨by lia, by lia⟩, by decide⟩), fun w4 τ4 hq4 => ?_⟩
              obtain ⟨rfl, ea4, eb4, rfl, hne4⟩ := hq4
              dsimp only [Option.toList, List.cons_append, List.nil_append, Nat.beq, gI_sI, gI_sL, gI_sA, gI_sM, gL_sI, gL_sL, gL_sA, gL_sM, aI_sI, aI_sL, aI_sA, aI_sM, aL_sI, aL_sL, aL_sA, aL_sM]
              apply hB
              dsimp only [rgo, rfd, BjudgeAll, Nat.beq, rwp, rst, lv_args, rlk, rs1, rs2, rdl, rky, rct, rcs, rcd, rno, rsw, Value.category, List.filter, List.take, List.drop, List.reverse, List.reverseAux, List.cons_append, List.nil_append, Option.toList, Int.toNat, Int.reduceToNat, if_pos, if_neg, reduceIte, ↓reduceIte, Nat.reduceAdd, Nat.reduceEqDiff, Nat.reduceBEq, beq_self_eq_true, Bool.not_true, Bool.not_false, Bool.and_true, Bool.and_false, Bool.true_and, Bool.false_and, gI_sI, gI_sL, gI_sA, gI_sM, gL_sI, gL_sL, gL_sA, gL_sM, aI_sI, aI_sL, aI_sA, aI_sM, aL_sI, aL_sL, aL_sA, aL_sM, BjudgeAll_0, BjudgeAll_33, BjudgeAll_41, BjudgeAll_55, BjudgeAll_61, BjudgeAll_69, BjudgeAll_111, BjudgeAll_122, BjudgeAll_128, BjudgeAll_135, BjudgeAll_143, BjudgeAll_154, BjudgeAll_162, BjudgeAll_167, BjudgeAll_173, BjudgeAll_180, BjudgeAll_184, oi_0, oi_1, oi_18, oi_2, oi_m2, P_err, P_find, P_flow, P_judgeExp, P_judgeStep, P_methodsTold]; try dsimp only
              refine hW 61 [(0, .ref 1000), (1, .int (v + 1))] _ _ _ (by simp [rdl, rky]) (lv _ ?_ _ (v + 1) rfl ⟨((((hX.1.a rfl).a rfl).i rfl).i rfl).i rfl, hX.2.1, hX.2.2⟩ ⟨by lia, by lia⟩)
              exact mlt4 hk (by lia) (by lia)
      have t55 : ∀ X : RS, J0 S X → G 55 [(0, .ref 1000)] [] X := by
        intro X hX
        apply hB
        dsimp only [rgo, rfd, BjudgeAll, Nat.beq, rwp, rst, lv_args, rlk, rs1, rs2, rdl, rky, rct, rcs, rcd, rno, rsw, Value.category, List.filter, List.take, List.drop, List.reverse, List.reverseAux, List.cons_append, List.nil_append, Option.toList, Int.toNat, Int.reduceToNat, if_pos, if_neg, reduceIte, ↓reduceIte, Nat.reduceAdd, Nat.reduceEqDiff, Nat.reduceBEq, beq_self_eq_true, Bool.not_true, Bool.not_false, Bool.and_true, Bool.and_false, Bool.true_and, Bool.false_and, gI_sI, gI_sL, gI_sA, gI_sM, gL_sI, gL_sL, gL_sA, gL_sM, aI_sI, aI_sL, aI_sA, aI_sM, aL_sI, aL_sL, aL_sA, aL_sM, BjudgeAll_0, BjudgeAll_33, BjudgeAll_41, BjudgeAll_55, BjudgeAll_61, BjudgeAll_69, BjudgeAll_111, BjudgeAll_122, BjudgeAll_128, BjudgeAll_135, BjudgeAll_143, BjudgeAll_154, BjudgeAll_162, BjudgeAll_167, BjudgeAll_173, BjudgeAll_180, BjudgeAll_184, oi_0, oi_1, oi_18, oi_2, oi_m2, P_err, P_find, P_flow, P_judgeExp, P_judgeStep, P_methodsTold]; try dsimp only
        refine ⟨rfl, (by decide), (hK.j.fj hX.1), fun w1 τ1 hq1 => ?_⟩
        have hw1 := hq1.1
        subst hw1
        dsimp only [Option.toList, List.cons_append, List.nil_append, Nat.beq, gI_sI, gI_sL, gI_sA, gI_sM, gL_sI, gL_sL, gL_sA, gL_sM, aI_sI, aI_sL, aI_sA, aI_sM, aL_sI, aL_sL, aL_sA, aL_sM]
        obtain ⟨-, hfm⟩ := hq1
        exact hW 61 [(0, .ref 1000), (1, .int 0)] _ _ _ (by simp [rdl, rky]) (lv _ _ 0 rfl ⟨hX.1.tr hfm.j, by rw [hfm.1 69 rfl, hfm.1 74 rfl, hfm.1 91 rfl, hfm.1 68 rfl]; exact hX.2.1, by rw [hfm.2.2.1 59 rfl]; exact hX.2.2⟩ ⟨by decide, by decide⟩)
      have l33 : ∀ n : Nat, ∀ (X : RS) (t : Int32), (4000 - t.toInt).toNat = n → J0 S X → (0 ≤ t ∧ t ≤ 2590) → G 33 [(0, .ref 1000), (1, .int t)] [] X := by
        intro n
        induction n using Nat.strongRecOn with
        | ind n l33 =>
          intro X t hk hX ht
          have x2 : gI X 2 = gI S 2 := hX.1.1 2 rfl
          apply hB
          dsimp only [rgo, rfd, BjudgeAll, Nat.beq, rwp, rst, lv_args, rlk, rs1, rs2, rdl, rky, rct, rcs, rcd, rno, rsw, Value.category, List.filter, List.take, List.drop, List.reverse, List.reverseAux, List.cons_append, List.nil_append, Option.toList, Int.toNat, Int.reduceToNat, if_pos, if_neg, reduceIte, ↓reduceIte, Nat.reduceAdd, Nat.reduceEqDiff, Nat.reduceBEq, beq_self_eq_true, Bool.not_true, Bool.not_false, Bool.and_true, Bool.and_false, Bool.true_and, Bool.false_and, gI_sI, gI_sL, gI_sA, gI_sM, gL_sI, gL_sL, gL_sA, gL_sM, aI_sI, aI_sL, aI_sA, aI_sM, aL_sI, aL_sL, aL_sA, aL_sM, BjudgeAll_0, BjudgeAll_33, BjudgeAll_41, BjudgeAll_55, BjudgeAll_61, BjudgeAll_69, BjudgeAll_111, BjudgeAll_122, BjudgeAll_128, BjudgeAll_135, BjudgeAll_143, BjudgeAll_154, BjudgeAll_162, BjudgeAll_167, BjudgeAll_173, BjudgeAll_180, BjudgeAll_184, oi_0, oi_1, oi_18, oi_2, oi_m2, P_err, P_find, P_flow, P_judgeExp, P_judgeStep, P_methodsTold]; try dsimp only
          refine ⟨rfl, fun h1 => ?_, fun h1 => ?_⟩
          · exact hW 55 [(0, .ref 1000)] _ _ _ (by simp [rdl, rky]) (t55 X hX)
          · apply hB
            dsimp only [rgo, rfd, BjudgeAll, Nat.beq, rwp, rst, lv_args, rlk, rs1, rs2, rdl, rky, rct, rcs, rcd, rno, rsw, Value.category, List.filter, List.take, List.drop, List.reverse, List.reverseAux, List.cons_append, List.nil_append, Option.toList, Int.toNat, Int.reduceToNat, if_pos, if_neg, reduceIte, ↓reduceIte, Nat.reduceAdd, Nat.reduceEqDiff, Nat.reduceBEq, beq_self_eq_true, Bool.not_true, Bool.not_false, Bool.and_true, Bool.and_false, Bool.true_and, Bool.false_and, gI_sI, gI_sL, gI_sA, gI_sM, gL_sI, gL_sL, gL_sA, gL_sM, aI_sI, aI_sL, aI_sA, aI_sM, aL_sI, aL_sL, aL_sA, aL_sM, BjudgeAll_0, BjudgeAll_33, BjudgeAll_41, BjudgeAll_55, BjudgeAll_61, BjudgeAll_69, BjudgeAll_111, BjudgeAll_122, BjudgeAll_128, BjudgeAll_135, BjudgeAll_143, BjudgeAll_154, BjudgeAll_162, BjudgeAll_167, BjudgeAll_173, BjudgeAll_180, BjudgeAll_184, oi_0, oi_1, oi_18, oi_2, oi_m2, P_err, P_find, P_flow, P_judgeExp, P_judgeStep, P_methodsTold]; try dsimp only
            refine ⟨rfl, rfl, (in_80 (by lia) (by lia)), ?_⟩
            refine hW 33 [(0, .ref 1000), (1, .int (t + 1))] _ _ _ (by simp [rdl, rky]) (l33 _ ?_ _ (t + 1) rfl ⟨hX.1.a rfl, hX.2.1, hX.2.2⟩ ⟨by lia, by lia⟩)
            exact mlt4 hk (by lia) (by lia)
      apply hB
      dsimp only [rgo, rfd, BjudgeAll, Nat.beq, rwp, rst, lv_args, rlk, rs1, rs2, rdl, rky, rct, rcs, rcd, rno, rsw, Value.category, List.filter, List.take, List.drop, List.reverse, List.reverseAux, List.cons_append, List.nil_append, Option.toList, Int.toNat, Int.reduceToNat, if_pos, if_neg, reduceIte, ↓reduceIte, Nat.reduceAdd, Nat.reduceEqDiff, Nat.reduceBEq, beq_self_eq_true, Bool.not_true, Bool.not_false, Bool.and_true, Bool.and_false, Bool.true_and, Bool.false_and, gI_sI, gI_sL, gI_sA, gI_sM, gL_sI, gL_sL, gL_sA, gL_sM, aI_sI, aI_sL, aI_sA, aI_sM, aL_sI, aL_sL, aL_sA, aL_sM, BjudgeAll_0, BjudgeAll_33, BjudgeAll_41, BjudgeAll_55, BjudgeAll_61, BjudgeAll_69, BjudgeAll_111, BjudgeAll_122, BjudgeAll_128, BjudgeAll_135, BjudgeAll_143, BjudgeAll_154, BjudgeAll_162, BjudgeAll_167, BjudgeAll_173, BjudgeAll_180, BjudgeAll_184, oi_0, oi_1, oi_18, oi_2, oi_m2, P_err, P_find, P_flow, P_judgeExp, P_judgeStep, P_methodsTold]; try dsimp only
      refine ⟨rfl, Or.inr rfl, rfl, rfl, rfl, rfl, rfl, ?_⟩
      rw [← hS]
      exact hW 33 [(0, .ref 1000), (1, .int 0)] _ _ _ (by simp [rdl, rky]) (l33 _ _ 0 rfl ⟨by (repeat (first | exact Fj.rf | refine Fj.a ?_ rfl | refine Fj.i ?_ rfl | refine Fj.m ?_ rfl)), ⟨rfl, rfl, rfl, h68S⟩, rfl⟩ ⟨by decide, by decide⟩)
    next => exact hP.elim
theorem m_judgeAll (l : Launch) : RMet l 6 82 P_judgeAll Q_judgeAll := by
  refine RMet.by BjudgeAll [(70, P_err, Q_err), (71, P_find, Q_find), (113, P_flow, Q_flow), (88, P_judgeExp, Q_judgeExp), (105, P_judgeStep, Q_judgeStep), (87, P_methodsTold, Q_methodsTold)] rojudgeAll okBjudgeAll (ctc (m_err l) (by decide) (ctc (m_find l) (by decide) (ctc (m_flow l) (by decide) (ctc (m_judgeExp l) (by decide) (ctc (m_judgeStep l) (by decide) (ctc (m_methodsTold l) (by decide) ct0)))))) ?_ b_judgeAll
  · intro As σ hP
    unfold P_judgeAll at hP
    split at hP
    next => exact Nat.le_of_ble_eq_true rfl
    next => exact hP.elim
set_option maxRecDepth 100000 in
theorem e_judgeAll (l : Launch) : RMetE l 6 82 P_judgeAll Q_judgeAll := by
  refine RMetE.by BjudgeAll [(70, P_err, Q_err), (71, P_find, Q_find), (113, P_flow, Q_flow), (88, P_judgeExp, Q_judgeExp), (105, P_judgeStep, Q_judgeStep), (87, P_methodsTold, Q_methodsTold)] rfl rfl rojudgeAll okBjudgeAll (ctEc (e_err l) (by decide) (ctEc (e_find l) (by decide) (ctEc (e_flow l) (by decide) (ctEc (e_judgeExp l) (by decide) (ctEc (e_judgeStep l) (by decide) (ctEc (e_methodsTold l) (by decide) ctE0)))))) ?_ b_judgeAll
  · intro As σ hP
    unfold P_judgeAll at hP
    split at hP
    next => exact Nat.le_of_ble_eq_true rfl
    next => exact hP.elim
