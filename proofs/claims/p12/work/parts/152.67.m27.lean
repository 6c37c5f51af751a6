def Fy (σ τ : RS) : Prop := (∀ k, k ≠ 1 → gI τ k = gI σ k) ∧ (∀ k, gL τ k = gL σ k) ∧ (∀ k, k ≠ 0 → aI τ k = aI σ k) ∧ ∀ k, aL τ k = aL σ k
theorem Fy.rf {σ : RS} : Fy σ σ := ⟨fun _ _ => rfl, fun _ => rfl, fun _ _ => rfl, fun _ => rfl⟩
theorem Fy.tr {σ τ υ : RS} (h1 : Fy σ τ) (h2 : Fy τ υ) : Fy σ υ := ⟨fun k hk => (h2.1 k hk).trans (h1.1 k hk), fun k => (h2.2.1 k).trans (h1.2.1 k), fun k hk => (h2.2.2.1 k hk).trans (h1.2.2.1 k hk), fun k => (h2.2.2.2 k).trans (h1.2.2.2 k)⟩
theorem Fy.s {σ τ : RS} (h : Fy σ τ) {v : Int32} {f : Nat → Int32} : Fy σ (sI (sA τ 0 f) 1 v) := ⟨fun j hj => by
  rw [gI_sI, nb_ne hj]
  exact h.1 j hj, h.2.1, fun j hj => by
  rw [aI_sI, aI_sA, nb_ne hj]
  exact h.2.2.1 j hj, h.2.2.2⟩
def P_lay : RP := fun As σ => match As with
  | [.int v] => 0 ≤ (gI σ 1) ∧ (gI σ 1) ≤ 2496
  | _ => False
def Q_lay : RQ := fun As σ w τ => match As with
  | [.int v] => w = none ∧ Fy σ τ ∧ (gI τ 1) = (gI σ 1) + 4
  | _ => False
set_option maxRecDepth 100000 in
set_option maxHeartbeats 4000000 in
theorem m_lay (l : Launch) : RMet l 1 1 P_lay Q_lay := by
  refine RMet.by Blay [] rolay okBlay ct0 ?_ ?_
  · intro As σ hP
    unfold P_lay at hP
    split at hP
    next => exact Nat.le_of_ble_eq_true rfl
    next => exact hP.elim
  · intro As σ hP G hB hW
    unfold P_lay at hP
    split at hP
    next v => 
      unfold Q_lay at hB
      dsimp only at hB
      have s4 : ∀ τ : RS, Fy σ τ → gI τ 1 = gI σ 1 + 4 → G 3 [(0, .ref 1000), (1, .int v), (2, .int (-8))] [] τ := by
        intro τ hF hv
        apply hB
        dsimp only [rgo, rfd, Blay, Nat.beq, rwp, rst, lv_args, rlk, rs1, rs2, rdl, rky, rct, rcs, rcd, rno, rsw, Value.category, List.filter, List.take, List.drop, List.reverse, List.reverseAux, List.cons_append, List.nil_append, Option.toList, Int.toNat, Int.reduceToNat, if_pos, if_neg, reduceIte, ↓reduceIte, Nat.reduceAdd, Nat.reduceEqDiff, Nat.reduceBEq, beq_self_eq_true, Bool.not_true, Bool.not_false, Bool.and_true, Bool.and_false, Bool.true_and, Bool.false_and, gI_sI, gI_sL, gI_sA, gI_sM, gL_sI, gL_sL, gL_sA, gL_sM, aI_sI, aI_sL, aI_sA, aI_sM, aL_sI, aL_sL, aL_sA, aL_sM, Blay_0, Blay_3, Blay_7, Blay_39, oi_1, oi_24, oi_255, oi_m8]; try dsimp only
        refine ⟨fun h1 => ?_, fun h1 => absurd h1 (by decide)⟩
        clear h1
        apply hB
        dsimp only [rgo, rfd, Blay, Nat.beq, rwp, rst, lv_args, rlk, rs1, rs2, rdl, rky, rct, rcs, rcd, rno, rsw, Value.category, List.filter, List.take, List.drop, List.reverse, List.reverseAux, List.cons_append, List.nil_append, Option.toList, Int.toNat, Int.reduceToNat, if_pos, if_neg, reduceIte, ↓reduceIte, Nat.reduceAdd, Nat.reduceEqDiff, Nat.reduceBEq, beq_self_eq_true, Bool.not_true, Bool.not_false, Bool.and_true, Bool.and_false, Bool.true_and, Bool.false_and, gI_sI, gI_sL, gI_sA, gI_sM, gL_sI, gL_sL, gL_sA, gL_sM, aI_sI, aI_sL, aI_sA, aI_sM, aL_sI, aL_sL, aL_sA, aL_sM, Blay_0, Blay_3, Blay_7, Blay_39, oi_1, oi_24, oi_255, oi_m8]; try dsimp only
        exact ⟨rfl, hF, hv⟩
      have s3 : ∀ τ : RS, Fy σ τ → gI τ 1 = gI σ 1 + 3 → G 3 [(0, .ref 1000), (1, .int v), (2, .int (0))] [] τ := by
        intro τ hF hv
        apply hB
        dsimp only [rgo, rfd, Blay, Nat.beq, rwp, rst, lv_args, rlk, rs1, rs2, rdl, rky, rct, rcs, rcd, rno, rsw, Value.category, List.filter, List.take, List.drop, List.reverse, List.reverseAux, List.cons_append, List.nil_append, Option.toList, Int.toNat, Int.reduceToNat, if_pos, if_neg, reduceIte, ↓reduceIte, Nat.reduceAdd, Nat.reduceEqDiff, Nat.reduceBEq, beq_self_eq_true, Bool.not_true, Bool.not_false, Bool.and_true, Bool.and_false, Bool.true_and, Bool.false_and, gI_sI, gI_sL, gI_sA, gI_sM, gL_sI, gL_sL, gL_sA, gL_sM, aI_sI, aI_sL, aI_sA, aI_sM, aL_sI, aL_sL, aL_sA, aL_sM, Blay_0, Blay_3, Blay_7, Blay_39, oi_1, oi_24, oi_255, oi_m8]; try dsimp only
        refine ⟨fun h1 => absurd h1 (by decide), fun h1 => ?_⟩
        clear h1
        apply hB
        dsimp only [rgo, rfd, Blay, Nat.beq, rwp, rst, lv_args, rlk, rs1, rs2, rdl, rky, rct, rcs, rcd, rno, rsw, Value.category, List.filter, List.take, List.drop, List.reverse, List.reverseAux, List.cons_append, List.nil_append, Option.toList, Int.toNat, Int.reduceToNat, if_pos, if_neg, reduceIte, ↓reduceIte, Nat.reduceAdd, Nat.reduceEqDiff, Nat.reduceBEq, beq_self_eq_true, Bool.not_true, Bool.not_false, Bool.and_true, Bool.and_false, Bool.true_and, Bool.false_and, gI_sI, gI_sL, gI_sA, gI_sM, gL_sI, gL_sL, gL_sA, gL_sM, aI_sI, aI_sL, aI_sA, aI_sM, aL_sI, aL_sL, aL_sA, aL_sM, Blay_0, Blay_3, Blay_7, Blay_39, oi_1, oi_24, oi_255, oi_m8]; try dsimp only
        refine ⟨rfl, rfl, rfl, (in_0 (by lia) (by lia)), rfl, rfl, ?_⟩
        exact hW 3 [(0, .ref 1000), (1, .int v), (2, .int (-8))] _ _ _ (by simp) (s4 _ hF.s (by show gI τ 1 + 1 = gI σ 1 + 4; lia))
      have s2 : ∀ τ : RS, Fy σ τ → gI τ 1 = gI σ 1 + 2 → G 3 [(0, .ref 1000), (1, .int v), (2, .int (8))] [] τ := by
        intro τ hF hv
        apply hB
        dsimp only [rgo, rfd, Blay, Nat.beq, rwp, rst, lv_args, rlk, rs1, rs2, rdl, rky, rct, rcs, rcd, rno, rsw, Value.category, List.filter, List.take, List.drop, List.reverse, List.reverseAux, List.cons_append, List.nil_append, Option.toList, Int.toNat, Int.reduceToNat, if_pos, if_neg, reduceIte, ↓reduceIte, Nat.reduceAdd, Nat.reduceEqDiff, Nat.reduceBEq, beq_self_eq_true, Bool.not_true, Bool.not_false, Bool.and_true, Bool.and_false, Bool.true_and, Bool.false_and, gI_sI, gI_sL, gI_sA, gI_sM, gL_sI, gL_sL, gL_sA, gL_sM, aI_sI, aI_sL, aI_sA, aI_sM, aL_sI, aL_sL, aL_sA, aL_sM, Blay_0, Blay_3, Blay_7, Blay_39, oi_1, oi_24, oi_255, oi_m8]; try dsimp only
        refine ⟨fun h1 => absurd h1 (by decide), fun h1 => ?_⟩
        clear h1
        apply hB
        dsimp only [rgo, rfd, Blay, Nat.beq, rwp, rst, lv_args, rlk, rs1, rs2, rdl, rky, rct, rcs, rcd, rno, rsw, Value.category, List.filter, List.take, List.drop, List.reverse, List.reverseAux, List.cons_append, List.nil_append, Option.toList, Int.toNat, Int.reduceToNat, if_pos, if_neg, reduceIte, ↓reduceIte, Nat.reduceAdd, Nat.reduceEqDiff, Nat.reduceBEq, beq_self_eq_true, Bool.not_true, Bool.not_false, Bool.and_true, Bool.and_false, Bool.true_and, Bool.false_and, gI_sI, gI_sL, gI_sA, gI_sM, gL_sI, gL_sL, gL_sA, gL_sM, aI_sI, aI_sL, aI_sA, aI_sM, aL_sI, aL_sL, aL_sA, aL_sM, Blay_0, Blay_3, Blay_7, Blay_39, oi_1, oi_24, oi_255, oi_m8]; try dsimp only
        refine ⟨rfl, rfl, rfl, (in_0 (by lia) (by lia)), rfl, rfl, ?_⟩
        exact hW 3 [(0, .ref 1000), (1, .int v), (2, .int (0))] _ _ _ (by simp) (s3 _ hF.s (by show gI τ 1 + 1 = gI σ 1 + 3; lia))
      have s1 : ∀ τ : RS, Fy σ τ → gI τ 1 = gI σ 1 + 1 → G 3 [(0, .ref 1000), (1, .int v), (2, .int (16))] [] τ := by
        intro τ hF hv
        apply hB
        dsimp only [rgo, rfd, Blay, Nat.beq, rwp, rst, lv_args, rlk, rs1, rs2, rdl, rky, rct, rcs, rcd, rno, rsw, Value.category, List.filter, List.take, List.drop, List.reverse, List.reverseAux, List.cons_append, List.nil_append, Option.toList, Int.toNat, Int.reduceToNat, if_pos, if_neg, reduceIte, ↓reduceIte, Nat.reduceAdd, Nat.reduceEqDiff, Nat.reduceBEq, beq_self_eq_true, Bool.not_true, Bool.not_false, Bool.and_true, Bool.and_false, Bool.true_and, Bool.false_and, gI_sI, gI_sL, gI_sA, gI_sM, gL_sI, gL_sL, gL_sA, gL_sM, aI_sI, aI_sL, aI_sA, aI_sM, aL_sI, aL_sL, aL_sA, aL_sM, Blay_0, Blay_3, Blay_7, Blay_39, oi_1, oi_24, oi_255, oi_m8]; try dsimp only
        refine ⟨fun h1 => absurd h1 (by decide), fun h1 => ?_⟩
        clear h1
        apply hB
        dsimp only [rgo, rfd, Blay, Nat.beq, rwp, rst, lv_args, rlk, rs1, rs2, rdl, rky, rct, rcs, rcd, rno, rsw, Value.category, List.filter, List.take, List.drop, List.reverse, List.reverseAux, List.cons_append, List.nil_append, Option.toList, Int.toNat, Int.reduceToNat, if_pos, if_neg, reduceIte, ↓reduceIte, Nat.reduceAdd, Nat.reduceEqDiff, Nat.reduceBEq, beq_self_eq_true, Bool.not_true, Bool.not_false, Bool.and_true, Bool.and_false, Bool.true_and, Bool.false_and, gI_sI, gI_sL, gI_sA, gI_sM, gL_sI, gL_sL, gL_sA, gL_sM, aI_sI, aI_sL, aI_sA, aI_sM, aL_sI, aL_sL, aL_sA, aL_sM, Blay_0, Blay_3, Blay_7, Blay_39, oi_1, oi_24, oi_255, oi_m8]; try dsimp only
        refine ⟨rfl, rfl, rfl, (in_0 (by lia) (by lia)), rfl, rfl, ?_⟩
        exact hW 3 [(0, .ref 1000), (1, .int v), (2, .int (8))] _ _ _ (by simp) (s2 _ hF.s (by show gI τ 1 + 1 = gI σ 1 + 2; lia))
      have s0 : ∀ τ : RS, Fy σ τ → gI τ 1 = gI σ 1 + 0 → G 3 [(0, .ref 1000), (1, .int v), (2, .int (24))] [] τ := by
        intro τ hF hv
        apply hB
        dsimp only [rgo, rfd, Blay, Nat.beq, rwp, rst, lv_args, rlk, rs1, rs2, rdl, rky, rct, rcs, rcd, rno, rsw, Value.category, List.filter, List.take, List.drop, List.reverse, List.reverseAux, List.cons_append, List.nil_append, Option.toList, Int.toNat, Int.reduceToNat, if_pos, if_neg, reduceIte, ↓reduceIte, Nat.reduceAdd, Nat.reduceEqDiff, Nat.reduceBEq, beq_self_eq_true, Bool.not_true, Bool.not_false, Bool.and_true, Bool.and_false, Bool.true_and, Bool.false_and, gI_sI, gI_sL, gI_sA, gI_sM, gL_sI, gL_sL, gL_sA, gL_sM, aI_sI, aI_sL, aI_sA, aI_sM, aL_sI, aL_sL, aL_sA, aL_sM, Blay_0, Blay_3, Blay_7, Blay_39, oi_1, oi_24, oi_255, oi_m8]; try dsimp only
        refine ⟨fun h1 => absurd h1 (by decide), fun h1 => ?_⟩
        clear h1
        apply hB
        dsimp only [rgo, rfd, Blay, Nat.beq, rwp, rst, lv_args, rlk, rs1, rs2, rdl, rky, rct, rcs, rcd, rno, rsw, Value.category, List.filter, List.take, List.drop, List.reverse, List.reverseAux, List.cons_append, List.nil_append, Option.toList, Int.toNat, Int.reduceToNat, if_pos, if_neg, reduceIte, ↓reduceIte, Nat.reduceAdd, Nat.reduceEqDiff, Nat.reduceBEq, beq_self_eq_true, Bool.not_true, Bool.not_false, Bool.and_true, Bool.and_false, Bool.true_and, Bool.false_and, gI_sI, gI_sL, gI_sA, gI_sM, gL_sI, gL_sL, gL_sA, gL_sM, aI_sI, aI_sL, aI_sA, aI_sM, aL_sI, aL_sL, aL_sA, aL_sM, Blay_0, Blay_3, Blay_7, Blay_39, oi_1, oi_24, oi_255, oi_m8]; try dsimp only
        refine ⟨rfl, rfl, rfl, (in_0 (by lia) (by lia)), rfl, rfl, ?_⟩
        exact hW 3 [(0, .ref 1000), (1, .int v), (2, .int (16))] _ _ _ (by simp) (s1 _ hF.s (by show gI τ 1 + 1 = gI σ 1 + 1; lia))
      apply hB
      dsimp only [rgo, rfd, Blay, Nat.beq, rwp, rst, lv_args, rlk, rs1, rs2, rdl, rky, rct, rcs, rcd, rno, rsw, Value.category, List.filter, List.take, List.drop, List.reverse, List.reverseAux, List.cons_append, List.nil_append, Option.toList, Int.toNat, Int.reduceToNat, if_pos, if_neg, reduceIte, ↓reduceIte, Nat.reduceAdd, Nat.reduceEqDiff, Nat.reduceBEq, beq_self_eq_true, Bool.not_true, Bool.not_false, Bool.and_true, Bool.and_false, Bool.true_and, Bool.false_and, gI_sI, gI_sL, gI_sA, gI_sM, gL_sI, gL_sL, gL_sA, gL_sM, aI_sI, aI_sL, aI_sA, aI_sM, aL_sI, aL_sL, aL_sA, aL_sM, Blay_0, Blay_3, Blay_7, Blay_39, oi_1, oi_24, oi_255, oi_m8]; try dsimp only
      exact hW 3 [(0, .ref 1000), (1, .int v), (2, .int 24)] _ _ _ (by simp) (s0 σ Fy.rf (by lia))
    next => exact hP.elim
def P_feed : RP := fun As σ => match As with
  | [.int a, .int b, .int c, .int d, .int e] => 0 ≤ (gI σ 1) ∧ (gI σ 1) ≤ 2500
  | _ => False
def Q_feed : RQ := fun As σ w τ => match As with
  | [.int a, .int b, .int c, .int d, .int e] => (2500 < (gI σ 1) + 20 ∧ w = some (.int (-3)) ∧ τ = σ) ∨ ((gI σ 1) + 20 ≤ 2500 ∧ w = some (.int ((gI σ 1) + 20)) ∧ Fy σ τ ∧ (gI τ 1) = (gI σ 1) + 20)
  | _ => False
set_option maxRecDepth 100000 in
set_option maxHeartbeats 4000000 in
theorem m_feed (l : Launch) : RMet l 2 0 P_feed Q_feed := by
  refine RMet.by Bfeed [(1, P_lay, Q_lay)] rofeed okBfeed (ctc (m_lay l) (by decide) ct0) ?_ ?_
  · intro As σ hP
    unfold P_feed at hP
    split at hP
    next => exact Nat.le_of_ble_eq_true rfl
    next => exact hP.elim
  · intro As σ hP G hB hW
    unfold P_feed at hP
    split at hP
    next a b c d e => 
      unfold Q_feed at hB
      dsimp only at hB
      have hp := hP
      apply hB
      dsimp only [rgo, rfd, Bfeed, Nat.beq, rwp, rst, lv_args, rlk, rs1, rs2, rdl, rky, rct, rcs, rcd, rno, rsw, Value.category, List.filter, List.take, List.drop, List.reverse, List.reverseAux, List.cons_append, List.nil_append, Option.toList, Int.toNat, Int.reduceToNat, if_pos, if_neg, reduceIte, ↓reduceIte, Nat.reduceAdd, Nat.reduceEqDiff, Nat.reduceBEq, beq_self_eq_true, Bool.not_true, Bool.not_false, Bool.and_true, Bool.and_false, Bool.true_and, Bool.false_and, gI_sI, gI_sL, gI_sA, gI_sM, gL_sI, gL_sL, gL_sA, gL_sM, aI_sI, aI_sL, aI_sA, aI_sM, aL_sI, aL_sL, aL_sA, aL_sM, Bfeed_0, Bfeed_13, Bfeed_16, oi_20, oi_2500, oi_m3, P_lay]; try dsimp only
      refine ⟨rfl, fun h1 => ?_, fun h1 => ?_⟩
      · apply hB
        dsimp only [rgo, rfd, Bfeed, Nat.beq, rwp, rst, lv_args, rlk, rs1, rs2, rdl, rky, rct, rcs, rcd, rno, rsw, Value.category, List.filter, List.take, List.drop, List.reverse, List.reverseAux, List.cons_append, List.nil_append, Option.toList, Int.toNat, Int.reduceToNat, if_pos, if_neg, reduceIte, ↓reduceIte, Nat.reduceAdd, Nat.reduceEqDiff, Nat.reduceBEq, beq_self_eq_true, Bool.not_true, Bool.not_false, Bool.and_true, Bool.and_false, Bool.true_and, Bool.false_and, gI_sI, gI_sL, gI_sA, gI_sM, gL_sI, gL_sL, gL_sA, gL_sM, aI_sI, aI_sL, aI_sA, aI_sM, aL_sI, aL_sL, aL_sA, aL_sM, Bfeed_0, Bfeed_13, Bfeed_16, oi_20, oi_2500, oi_m3, P_lay]; try dsimp only
        refine ⟨rfl, (by decide), (⟨by lia, by lia⟩), fun w2 τ2 hq2 => ?_⟩
        obtain ⟨rfl, hy2, hv2⟩ := hq2
        dsimp only [Option.toList, List.cons_append, List.nil_append, Nat.beq, gI_sI, gI_sL, gI_sA, gI_sM, gL_sI, gL_sL, gL_sA, gL_sM, aI_sI, aI_sL, aI_sA, aI_sM, aL_sI, aL_sL, aL_sA, aL_sM]
        refine ⟨rfl, (by decide), (⟨by lia, by lia⟩), fun w3 τ3 hq3 => ?_⟩
        obtain ⟨rfl, hy3, hv3⟩ := hq3
        dsimp only [Option.toList, List.cons_append, List.nil_append, Nat.beq, gI_sI, gI_sL, gI_sA, gI_sM, gL_sI, gL_sL, gL_sA, gL_sM, aI_sI, aI_sL, aI_sA, aI_sM, aL_sI, aL_sL, aL_sA, aL_sM]
        refine ⟨rfl, (by decide), (⟨by lia, by lia⟩), fun w4 τ4 hq4 => ?_⟩
        obtain ⟨rfl, hy4, hv4⟩ := hq4
        dsimp only [Option.toList, List.cons_append, List.nil_append, Nat.beq, gI_sI, gI_sL, gI_sA, gI_sM, gL_sI, gL_sL, gL_sA, gL_sM, aI_sI, aI_sL, aI_sA, aI_sM, aL_sI, aL_sL, aL_sA, aL_sM]
        refine ⟨rfl, (by decide), (⟨by lia, by lia⟩), fun w5 τ5 hq5 => ?_⟩
        obtain ⟨rfl, hy5, hv5⟩ := hq5
        dsimp only [Option.toList, List.cons_append, List.nil_append, Nat.beq, gI_sI, gI_sL, gI_sA, gI_sM, gL_sI, gL_sL, gL_sA, gL_sM, aI_sI, aI_sL, aI_sA, aI_sM, aL_sI, aL_sL, aL_sA, aL_sM]
        refine ⟨rfl, (by decide), (⟨by lia, by lia⟩), fun w6 τ6 hq6 => ?_⟩
        obtain ⟨rfl, hy6, hv6⟩ := hq6
        dsimp only [Option.toList, List.cons_append, List.nil_append, Nat.beq, gI_sI, gI_sL, gI_sA, gI_sM, gL_sI, gL_sL, gL_sA, gL_sM, aI_sI, aI_sL, aI_sA, aI_sM, aL_sI, aL_sL, aL_sA, aL_sM]
        refine ⟨rfl, trivial, ?_⟩
        have hvv : gI τ6 1 = gI σ 1 + 20 := by lia
        exact Or.inr ⟨by lia, by rw [hvv], hy2.tr (hy3.tr (hy4.tr (hy5.tr hy6))), hvv⟩
      · apply hB
        dsimp only [rgo, rfd, Bfeed, Nat.beq, rwp, rst, lv_args, rlk, rs1, rs2, rdl, rky, rct, rcs, rcd, rno, rsw, Value.category, List.filter, List.take, List.drop, List.reverse, List.reverseAux, List.cons_append, List.nil_append, Option.toList, Int.toNat, Int.reduceToNat, if_pos, if_neg, reduceIte, ↓reduceIte, Nat.reduceAdd, Nat.reduceEqDiff, Nat.reduceBEq, beq_self_eq_true, Bool.not_true, Bool.not_false, Bool.and_true, Bool.and_false, Bool.true_and, Bool.false_and, gI_sI, gI_sL, gI_sA, gI_sM, gL_sI, gL_sL, gL_sA, gL_sM, aI_sI, aI_sL, aI_sA, aI_sM, aL_sI, aL_sL, aL_sA, aL_sM, Bfeed_0, Bfeed_13, Bfeed_16, oi_20, oi_2500, oi_m3, P_lay]; try dsimp only
        refine ⟨trivial, ?_⟩
        exact Or.inl ⟨by lia, rfl, rfl⟩
    next => exact hP.elim
