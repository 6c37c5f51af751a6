theorem XrR.s {σ0 τ : RS} {s : SpC} {n : Nat} (h : XrR σ0 τ s n) : ShR τ s := h.1
theorem S1.o {k : Nat} {σ τ : RS} (h : S1 k σ τ) (hk : k ≠ 29) : oR τ = oR σ := by
  unfold oR
  rw [h.1 29 (fun q => hk q.symm), h.2]
theorem S1.w {k : Nat} {σ τ : RS} (h : S1 k σ τ) (hk : k ≠ 29) (hw : wO σ) : wO τ := by
  unfold wO
  rw [h.o hk, h.1 29 (fun q => hk q.symm), h.2, h.2]
  exact hw
def Pv_wrong : UP1 := fun A1 σ => match A1 with
  | [.int what, .int token] => True
  | _ => False
def Qv_wrong : UQ1 := fun A1 σ w τ => match A1 with
  | [.int what, .int token] => w = some (.int 0) ∧ (gI σ 15 = 0 → τ = sI (sI σ 15 what) 16 (aI σ 4 token.toNatClampNeg))
  | _ => False
def Qw_wrong : UQ1 := fun A1 σ w τ => Pv_wrong A1 σ → Qv_wrong A1 σ w τ
set_option maxRecDepth 100000 in
set_option maxHeartbeats 4000000 in
theorem v_wrong : UMet 12 (Pv_wrong) (Qv_wrong) := by
  refine UMet.by Bwrong [] rfl uc0 ?_
  intro A1 σ hP K hB hW
  unfold Pv_wrong at hP
  split at hP
  next what token =>
    intro n0
    refine hB _ _ _ _ _ (fun m1 hm1 => ?_)
    dsimp only [ugo, uwp, ust, uct, rfd, Bwrong, Nat.beq, lv_args, rlk, rs1, rs2, rdl, rky, rcd, rno, rsw, Value.category, List.filter, List.take, List.drop, List.reverse, List.reverseAux, List.cons_append, List.nil_append, Option.toList, Int.toNat, Int.reduceToNat, if_pos, if_neg, reduceIte, ↓reduceIte, Nat.reduceAdd, Nat.reduceEqDiff, Nat.reduceBEq, beq_self_eq_true, Bool.not_true, Bool.not_false, Bool.and_true, Bool.and_false, Bool.true_and, Bool.false_and, gI_sI, gI_sL, gI_sA, gI_sM, gL_sI, gL_sL, gL_sA, gL_sM, aI_sI, aI_sL, aI_sA, aI_sM, aL_sI, aL_sL, aL_sA, aL_sM, Bwrong_0, Bwrong_7, Bwrong_22, oi_0]; try dsimp only
    refine ⟨fun h2 => ?_, fun h2 => ?_⟩
    · refine hB _ _ _ _ _ (fun m3 hm3 => ?_)
      dsimp only [ugo, uwp, ust, uct, rfd, Bwrong, Nat.beq, lv_args, rlk, rs1, rs2, rdl, rky, rcd, rno, rsw, Value.category, List.filter, List.take, List.drop, List.reverse, List.reverseAux, List.cons_append, List.nil_append, Option.toList, Int.toNat, Int.reduceToNat, if_pos, if_neg, reduceIte, ↓reduceIte, Nat.reduceAdd, Nat.reduceEqDiff, Nat.reduceBEq, beq_self_eq_true, Bool.not_true, Bool.not_false, Bool.and_true, Bool.and_false, Bool.true_and, Bool.false_and, gI_sI, gI_sL, gI_sA, gI_sM, gL_sI, gL_sL, gL_sA, gL_sM, aI_sI, aI_sL, aI_sA, aI_sM, aL_sI, aL_sL, aL_sA, aL_sM, Bwrong_0, Bwrong_7, Bwrong_22, oi_0]; try dsimp only
      unfold Qv_wrong
      try dsimp only
      exact ⟨rfl, fun q => absurd q h2⟩
    · refine hB _ _ _ _ _ (fun m4 hm4 => ?_)
      dsimp only [ugo, uwp, ust, uct, rfd, Bwrong, Nat.beq, lv_args, rlk, rs1, rs2, rdl, rky, rcd, rno, rsw, Value.category, List.filter, List.take, List.drop, List.reverse, List.reverseAux, List.cons_append, List.nil_append, Option.toList, Int.toNat, Int.reduceToNat, if_pos, if_neg, reduceIte, ↓reduceIte, Nat.reduceAdd, Nat.reduceEqDiff, Nat.reduceBEq, beq_self_eq_true, Bool.not_true, Bool.not_false, Bool.and_true, Bool.and_false, Bool.true_and, Bool.false_and, gI_sI, gI_sL, gI_sA, gI_sM, gL_sI, gL_sL, gL_sA, gL_sM, aI_sI, aI_sL, aI_sA, aI_sM, aL_sI, aL_sL, aL_sA, aL_sM, Bwrong_0, Bwrong_7, Bwrong_22, oi_0]; try dsimp only
      intro p5
      refine hB _ _ _ _ _ (fun m6 hm6 => ?_)
      dsimp only [ugo, uwp, ust, uct, rfd, Bwrong, Nat.beq, lv_args, rlk, rs1, rs2, rdl, rky, rcd, rno, rsw, Value.category, List.filter, List.take, List.drop, List.reverse, List.reverseAux, List.cons_append, List.nil_append, Option.toList, Int.toNat, Int.reduceToNat, if_pos, if_neg, reduceIte, ↓reduceIte, Nat.reduceAdd, Nat.reduceEqDiff, Nat.reduceBEq, beq_self_eq_true, Bool.not_true, Bool.not_false, Bool.and_true, Bool.and_false, Bool.true_and, Bool.false_and, gI_sI, gI_sL, gI_sA, gI_sM, gL_sI, gL_sL, gL_sA, gL_sM, aI_sI, aI_sL, aI_sA, aI_sM, aL_sI, aL_sL, aL_sA, aL_sM, Bwrong_0, Bwrong_7, Bwrong_22, oi_0]; try dsimp only
      unfold Qv_wrong
      try dsimp only
      exact ⟨rfl, fun _ => rfl⟩
  next => exact hP.elim
theorem w_wrong : UMet 12 (fun _ _ => True) Qw_wrong := fun A1 σ _ w τ h hP => v_wrong A1 σ hP w τ h
def Pv_cant (s : SpC) : UP1 := fun A1 σ => match A1 with
  | [] => ShR σ s
  | _ => False
def Qv_cant (s : SpC) : UQ1 := fun A1 σ w τ => match A1 with
  | [] => w = some (.int 0) ∧ FlR τ (raiY 2 s)
  | _ => False
def Qw_cant : UQ1 := fun A1 σ w τ => ∀ (s : SpC), Pv_cant s A1 σ → Qv_cant s A1 σ w τ
set_option maxRecDepth 100000 in
set_option maxHeartbeats 4000000 in
theorem v_cant (s : SpC) : UMet 13 (Pv_cant s) (Qv_cant s) := by
  refine UMet.by Bcant [(12, (fun _ _ => True), Qw_wrong)] rfl (ucc w_wrong uc0) ?_
  intro A1 σ hP K hB hW
  unfold Pv_cant at hP
  split at hP
  next =>
    intro n0
    refine hB _ _ _ _ _ (fun m1 hm1 => ?_)
    dsimp only [ugo, uwp, ust, uct, rfd, Bcant, Nat.beq, lv_args, rlk, rs1, rs2, rdl, rky, rcd, rno, rsw, Value.category, List.filter, List.take, List.drop, List.reverse, List.reverseAux, List.cons_append, List.nil_append, Option.toList, Int.toNat, Int.reduceToNat, if_pos, if_neg, reduceIte, ↓reduceIte, Nat.reduceAdd, Nat.reduceEqDiff, Nat.reduceBEq, beq_self_eq_true, Bool.not_true, Bool.not_false, Bool.and_true, Bool.and_false, Bool.true_and, Bool.false_and, gI_sI, gI_sL, gI_sA, gI_sM, gL_sI, gL_sL, gL_sA, gL_sM, aI_sI, aI_sL, aI_sA, aI_sM, aL_sI, aL_sL, aL_sA, aL_sM, Bcant_0, Bcant_15, Bcant_19, Bcant_20, oi_1, oi_2, oi_6]; try dsimp only
    intro p2
    refine ⟨fun h3 => ?_, fun h3 => ?_⟩
    · refine hB _ _ _ _ _ (fun m4 hm4 => ?_)
      dsimp only [ugo, uwp, ust, uct, rfd, Bcant, Nat.beq, lv_args, rlk, rs1, rs2, rdl, rky, rcd, rno, rsw, Value.category, List.filter, List.take, List.drop, List.reverse, List.reverseAux, List.cons_append, List.nil_append, Option.toList, Int.toNat, Int.reduceToNat, if_pos, if_neg, reduceIte, ↓reduceIte, Nat.reduceAdd, Nat.reduceEqDiff, Nat.reduceBEq, beq_self_eq_true, Bool.not_true, Bool.not_false, Bool.and_true, Bool.and_false, Bool.true_and, Bool.false_and, gI_sI, gI_sL, gI_sA, gI_sM, gL_sI, gL_sL, gL_sA, gL_sM, aI_sI, aI_sL, aI_sA, aI_sM, aL_sI, aL_sL, aL_sA, aL_sM, Bcant_0, Bcant_15, Bcant_19, Bcant_20, oi_1, oi_2, oi_6]; try dsimp only
      refine hB _ _ _ _ _ (fun m5 hm5 => ?_)
      dsimp only [ugo, uwp, ust, uct, rfd, Bcant, Nat.beq, lv_args, rlk, rs1, rs2, rdl, rky, rcd, rno, rsw, Value.category, List.filter, List.take, List.drop, List.reverse, List.reverseAux, List.cons_append, List.nil_append, Option.toList, Int.toNat, Int.reduceToNat, if_pos, if_neg, reduceIte, ↓reduceIte, Nat.reduceAdd, Nat.reduceEqDiff, Nat.reduceBEq, beq_self_eq_true, Bool.not_true, Bool.not_false, Bool.and_true, Bool.and_false, Bool.true_and, Bool.false_and, gI_sI, gI_sL, gI_sA, gI_sM, gL_sI, gL_sL, gL_sA, gL_sM, aI_sI, aI_sL, aI_sA, aI_sM, aL_sI, aL_sL, aL_sA, aL_sM, Bcant_0, Bcant_15, Bcant_19, Bcant_20, oi_1, oi_2, oi_6]; try dsimp only
      refine ⟨trivial, fun w6 τ6 hq6 => ?_⟩
      obtain ⟨rfl, hf6⟩ := hq6 trivial
      dsimp only [Option.toList, List.cons_append, List.nil_append, Nat.beq, gI_sI, gI_sL, gI_sA, gI_sM, gL_sI, gL_sL, gL_sA, gL_sM, aI_sI, aI_sL, aI_sA, aI_sM, aL_sI, aL_sL, aL_sA, aL_sM]
      unfold Qv_cant
      try dsimp only
      have e := hf6 hP.1.2
      subst e
      exact ⟨rfl, FlR.rai hP (by decide) (by show (2 : Int32).toInt = _; rw [if_neg (fun q => h3 (hP.ki.2.1.mpr q))]; rfl) rfl⟩
    · refine hB _ _ _ _ _ (fun m7 hm7 => ?_)
      dsimp only [ugo, uwp, ust, uct, rfd, Bcant, Nat.beq, lv_args, rlk, rs1, rs2, rdl, rky, rcd, rno, rsw, Value.category, List.filter, List.take, List.drop, List.reverse, List.reverseAux, List.cons_append, List.nil_append, Option.toList, Int.toNat, Int.reduceToNat, if_pos, if_neg, reduceIte, ↓reduceIte, Nat.reduceAdd, Nat.reduceEqDiff, Nat.reduceBEq, beq_self_eq_true, Bool.not_true, Bool.not_false, Bool.and_true, Bool.and_false, Bool.true_and, Bool.false_and, gI_sI, gI_sL, gI_sA, gI_sM, gL_sI, gL_sL, gL_sA, gL_sM, aI_sI, aI_sL, aI_sA, aI_sM, aL_sI, aL_sL, aL_sA, aL_sM, Bcant_0, Bcant_15, Bcant_19, Bcant_20, oi_1, oi_2, oi_6]; try dsimp only
      refine hB _ _ _ _ _ (fun m8 hm8 => ?_)
      dsimp only [ugo, uwp, ust, uct, rfd, Bcant, Nat.beq, lv_args, rlk, rs1, rs2, rdl, rky, rcd, rno, rsw, Value.category, List.filter, List.take, List.drop, List.reverse, List.reverseAux, List.cons_append, List.nil_append, Option.toList, Int.toNat, Int.reduceToNat, if_pos, if_neg, reduceIte, ↓reduceIte, Nat.reduceAdd, Nat.reduceEqDiff, Nat.reduceBEq, beq_self_eq_true, Bool.not_true, Bool.not_false, Bool.and_true, Bool.and_false, Bool.true_and, Bool.false_and, gI_sI, gI_sL, gI_sA, gI_sM, gL_sI, gL_sL, gL_sA, gL_sM, aI_sI, aI_sL, aI_sA, aI_sM, aL_sI, aL_sL, aL_sA, aL_sM, Bcant_0, Bcant_15, Bcant_19, Bcant_20, oi_1, oi_2, oi_6]; try dsimp only
      refine ⟨trivial, fun w9 τ9 hq9 => ?_⟩
      obtain ⟨rfl, hf9⟩ := hq9 trivial
      dsimp only [Option.toList, List.cons_append, List.nil_append, Nat.beq, gI_sI, gI_sL, gI_sA, gI_sM, gL_sI, gL_sL, gL_sA, gL_sM, aI_sI, aI_sL, aI_sA, aI_sM, aL_sI, aL_sL, aL_sA, aL_sM]
      unfold Qv_cant
      try dsimp only
      have e := hf9 hP.1.2
      subst e
      exact ⟨rfl, FlR.rai hP (by decide) (by show (1 : Int32).toInt = _; rw [if_pos (hP.ki.2.1.mp h3)]; rfl) rfl⟩
  next => exact hP.elim
theorem w_cant : UMet 13 (fun _ _ => True) Qw_cant := fun A1 σ _ w τ h s hP => v_cant s A1 σ hP w τ h
def Pv_isSign : UP1 := fun A1 σ => match A1 with
  | [.int x] => True
  | _ => False
def Qv_isSign : UQ1 := fun A1 σ w τ => match A1 with
  | [.int x] => σ = τ ∧ ∃ b : Int32, w = some (.int b) ∧ ((b = 1 ∧ aI σ 3 (gI σ 14).toNatClampNeg = 5 ∧ aI σ 6 (gI σ 14).toNatClampNeg = x) ∨ (b = 0 ∧ ¬ (aI σ 3 (gI σ 14).toNatClampNeg = 5 ∧ aI σ 6 (gI σ 14).toNatClampNeg = x)))
  | _ => False
def Qw_isSign : UQ1 := fun A1 σ w τ => Pv_isSign A1 σ → Qv_isSign A1 σ w τ
set_option maxRecDepth 100000 in
set_option maxHeartbeats 4000000 in
theorem v_isSign : UMet 14 (Pv_isSign) (Qv_isSign) := by
  refine UMet.by BisSign [] rfl uc0 ?_
  intro A1 σ hP K hB hW
  unfold Pv_isSign at hP
  split at hP
  next x =>
    intro n0
    refine hB _ _ _ _ _ (fun m1 hm1 => ?_)
    dsimp only [ugo, uwp, ust, uct, rfd, BisSign, Nat.beq, lv_args, rlk, rs1, rs2, rdl, rky, rcd, rno, rsw, Value.category, List.filter, List.take, List.drop, List.reverse, List.reverseAux, List.cons_append, List.nil_append, Option.toList, Int.toNat, Int.reduceToNat, if_pos, if_neg, reduceIte, ↓reduceIte, Nat.reduceAdd, Nat.reduceEqDiff, Nat.reduceBEq, beq_self_eq_true, Bool.not_true, Bool.not_false, Bool.and_true, Bool.and_false, Bool.true_and, Bool.false_and, gI_sI, gI_sL, gI_sA, gI_sM, gL_sI, gL_sL, gL_sA, gL_sM, aI_sI, aI_sL, aI_sA, aI_sM, aL_sI, aL_sL, aL_sA, aL_sM, BisSign_0, BisSign_13, BisSign_26, BisSign_30, BisSign_31, oi_0, oi_1, oi_5]; try dsimp only
    intro p2
    refine ⟨fun h3 => ?_, fun h3 => ?_⟩
    · refine hB _ _ _ _ _ (fun m4 hm4 => ?_)
      dsimp only [ugo, uwp, ust, uct, rfd, BisSign, Nat.beq, lv_args, rlk, rs1, rs2, rdl, rky, rcd, rno, rsw, Value.category, List.filter, List.take, List.drop, List.reverse, List.reverseAux, List.cons_append, List.nil_append, Option.toList, Int.toNat, Int.reduceToNat, if_pos, if_neg, reduceIte, ↓reduceIte, Nat.reduceAdd, Nat.reduceEqDiff, Nat.reduceBEq, beq_self_eq_true, Bool.not_true, Bool.not_false, Bool.and_true, Bool.and_false, Bool.true_and, Bool.false_and, gI_sI, gI_sL, gI_sA, gI_sM, gL_sI, gL_sL, gL_sA, gL_sM, aI_sI, aI_sL, aI_sA, aI_sM, aL_sI, aL_sL, aL_sA, aL_sM, BisSign_0, BisSign_13, BisSign_26, BisSign_30, BisSign_31, oi_0, oi_1, oi_5]; try dsimp only
      refine hB _ _ _ _ _ (fun m5 hm5 => ?_)
      dsimp only [ugo, uwp, ust, uct, rfd, BisSign, Nat.beq, lv_args, rlk, rs1, rs2, rdl, rky, rcd, rno, rsw, Value.category, List.filter, List.take, List.drop, List.reverse, List.reverseAux, List.cons_append, List.nil_append, Option.toList, Int.toNat, Int.reduceToNat, if_pos, if_neg, reduceIte, ↓reduceIte, Nat.reduceAdd, Nat.reduceEqDiff, Nat.reduceBEq, beq_self_eq_true, Bool.not_true, Bool.not_false, Bool.and_true, Bool.and_false, Bool.true_and, Bool.false_and, gI_sI, gI_sL, gI_sA, gI_sM, gL_sI, gL_sL, gL_sA, gL_sM, aI_sI, aI_sL, aI_sA, aI_sM, aL_sI, aL_sL, aL_sA, aL_sM, BisSign_0, BisSign_13, BisSign_26, BisSign_30, BisSign_31, oi_0, oi_1, oi_5]; try dsimp only
      unfold Qv_isSign
      try dsimp only
      exact ⟨rfl, 0, rfl, Or.inr ⟨rfl, fun q => by obtain ⟨q1, q2⟩ := q; lia⟩⟩
    · refine hB _ _ _ _ _ (fun m6 hm6 => ?_)
      dsimp only [ugo, uwp, ust, uct, rfd, BisSign, Nat.beq, lv_args, rlk, rs1, rs2, rdl, rky, rcd, rno, rsw, Value.category, List.filter, List.take, List.drop, List.reverse, List.reverseAux, List.cons_append, List.nil_append, Option.toList, Int.toNat, Int.reduceToNat, if_pos, if_neg, reduceIte, ↓reduceIte, Nat.reduceAdd, Nat.reduceEqDiff, Nat.reduceBEq, beq_self_eq_true, Bool.not_true, Bool.not_false, Bool.and_true, Bool.and_false, Bool.true_and, Bool.false_and, gI_sI, gI_sL, gI_sA, gI_sM, gL_sI, gL_sL, gL_sA, gL_sM, aI_sI, aI_sL, aI_sA, aI_sM, aL_sI, aL_sL, aL_sA, aL_sM, BisSign_0, BisSign_13, BisSign_26, BisSign_30, BisSign_31, oi_0, oi_1, oi_5]; try dsimp only
      intro p7
      refine ⟨fun h8 => ?_, fun h8 => ?_⟩
      · refine hB _ _ _ _ _ (fun m9 hm9 => ?_)
        dsimp only [ugo, uwp, ust, uct, rfd, BisSign, Nat.beq, lv_args, rlk, rs1, rs2, rdl, rky, rcd, rno, rsw, Value.category, List.filter, List.take, List.drop, List.reverse, List.reverseAux, List.cons_append, List.nil_append, Option.toList, Int.toNat, Int.reduceToNat, if_pos, if_neg, reduceIte, ↓reduceIte, Nat.reduceAdd, Nat.reduceEqDiff, Nat.reduceBEq, beq_self_eq_true, Bool.not_true, Bool.not_false, Bool.and_true, Bool.and_false, Bool.true_and, Bool.false_and, gI_sI, gI_sL, gI_sA, gI_sM, gL_sI, gL_sL, gL_sA, gL_sM, aI_sI, aI_sL, aI_sA, aI_sM, aL_sI, aL_sL, aL_sA, aL_sM, BisSign_0, BisSign_13, BisSign_26, BisSign_30, BisSign_31, oi_0, oi_1, oi_5]; try dsimp only
        refine hB _ _ _ _ _ (fun m10 hm10 => ?_)
        dsimp only [ugo, uwp, ust, uct, rfd, BisSign, Nat.beq, lv_args, rlk, rs1, rs2, rdl, rky, rcd, rno, rsw, Value.category, List.filter, List.take, List.drop, List.reverse, List.reverseAux, List.cons_append, List.nil_append, Option.toList, Int.toNat, Int.reduceToNat, if_pos, if_neg, reduceIte, ↓reduceIte, Nat.reduceAdd, Nat.reduceEqDiff, Nat.reduceBEq, beq_self_eq_true, Bool.not_true, Bool.not_false, Bool.and_true, Bool.and_false, Bool.true_and, Bool.false_and, gI_sI, gI_sL, gI_sA, gI_sM, gL_sI, gL_sL, gL_sA, gL_sM, aI_sI, aI_sL, aI_sA, aI_sM, aL_sI, aL_sL, aL_sA, aL_sM, BisSign_0, BisSign_13, BisSign_26, BisSign_30, BisSign_31, oi_0, oi_1, oi_5]; try dsimp only
        unfold Qv_isSign
        try dsimp only
        exact ⟨rfl, 0, rfl, Or.inr ⟨rfl, fun q => by obtain ⟨q1, q2⟩ := q; lia⟩⟩
      · refine hB _ _ _ _ _ (fun m11 hm11 => ?_)
        dsimp only [ugo, uwp, ust, uct, rfd, BisSign, Nat.beq, lv_args, rlk, rs1, rs2, rdl, rky, rcd, rno, rsw, Value.category, List.filter, List.take, List.drop, List.reverse, List.reverseAux, List.cons_append, List.nil_append, Option.toList, Int.toNat, Int.reduceToNat, if_pos, if_neg, reduceIte, ↓reduceIte, Nat.reduceAdd, Nat.reduceEqDiff, Nat.reduceBEq, beq_self_eq_true, Bool.not_true, Bool.not_false, Bool.and_true, Bool.and_false, Bool.true_and, Bool.false_and, gI_sI, gI_sL, gI_sA, gI_sM, gL_sI, gL_sL, gL_sA, gL_sM, aI_sI, aI_sL, aI_sA, aI_sM, aL_sI, aL_sL, aL_sA, aL_sM, BisSign_0, BisSign_13, BisSign_26, BisSign_30, BisSign_31, oi_0, oi_1, oi_5]; try dsimp only
        refine hB _ _ _ _ _ (fun m12 hm12 => ?_)
        dsimp only [ugo, uwp, ust, uct, rfd, BisSign, Nat.beq, lv_args, rlk, rs1, rs2, rdl, rky, rcd, rno, rsw, Value.category, List.filter, List.take, List.drop, List.reverse, List.reverseAux, List.cons_append, List.nil_append, Option.toList, Int.toNat, Int.reduceToNat, if_pos, if_neg, reduceIte, ↓reduceIte, Nat.reduceAdd, Nat.reduceEqDiff, Nat.reduceBEq, beq_self_eq_true, Bool.not_true, Bool.not_false, Bool.and_true, Bool.and_false, Bool.true_and, Bool.false_and, gI_sI, gI_sL, gI_sA, gI_sM, gL_sI, gL_sL, gL_sA, gL_sM, aI_sI, aI_sL, aI_sA, aI_sM, aL_sI, aL_sL, aL_sA, aL_sM, BisSign_0, BisSign_13, BisSign_26, BisSign_30, BisSign_31, oi_0, oi_1, oi_5]; try dsimp only
        unfold Qv_isSign
        try dsimp only
        exact ⟨rfl, 1, rfl, Or.inl ⟨rfl, by lia, by lia⟩⟩
  next => exact hP.elim
theorem w_isSign : UMet 14 (fun _ _ => True) Qw_isSign := fun A1 σ _ w τ h hP => v_isSign A1 σ hP w τ h
def Pv_isWord : UP1 := fun A1 σ => match A1 with
  | [.int x] => True
  | _ => False
def Qv_isWord : UQ1 := fun A1 σ w τ => match A1 with
  | [.int x] => σ = τ ∧ ∃ b : Int32, w = some (.int b) ∧ ((b = 1 ∧ aI σ 3 (gI σ 14).toNatClampNeg = 4 ∧ aI σ 6 (gI σ 14).toNatClampNeg = x) ∨ (b = 0 ∧ ¬ (aI σ 3 (gI σ 14).toNatClampNeg = 4 ∧ aI σ 6 (gI σ 14).toNatClampNeg = x)))
  | _ => False
def Qw_isWord : UQ1 := fun A1 σ w τ => Pv_isWord A1 σ → Qv_isWord A1 σ w τ
set_option maxRecDepth 100000 in
set_option maxHeartbeats 4000000 in
theorem v_isWord : UMet 15 (Pv_isWord) (Qv_isWord) := by
  refine UMet.by BisWord [] rfl uc0 ?_
  intro A1 σ hP K hB hW
  unfold Pv_isWord at hP
  split at hP
  next x =>
    intro n0
    refine hB _ _ _ _ _ (fun m1 hm1 => ?_)
    dsimp only [ugo, uwp, ust, uct, rfd, BisWord, Nat.beq, lv_args, rlk, rs1, rs2, rdl, rky, rcd, rno, rsw, Value.category, List.filter, List.take, List.drop, List.reverse, List.reverseAux, List.cons_append, List.nil_append, Option.toList, Int.toNat, Int.reduceToNat, if_pos, if_neg, reduceIte, ↓reduceIte, Nat.reduceAdd, Nat.reduceEqDiff, Nat.reduceBEq, beq_self_eq_true, Bool.not_true, Bool.not_false, Bool.and_true, Bool.and_false, Bool.true_and, Bool.false_and, gI_sI, gI_sL, gI_sA, gI_sM, gL_sI, gL_sL, gL_sA, gL_sM, aI_sI, aI_sL, aI_sA, aI_sM, aL_sI, aL_sL, aL_sA, aL_sM, BisWord_0, BisWord_13, BisWord_26, BisWord_30, BisWord_31, oi_0, oi_1, oi_4]; try dsimp only
    intro p2
    refine ⟨fun h3 => ?_, fun h3 => ?_⟩
    · refine hB _ _ _ _ _ (fun m4 hm4 => ?_)
      dsimp only [ugo, uwp, ust, uct, rfd, BisWord, Nat.beq, lv_args, rlk, rs1, rs2, rdl, rky, rcd, rno, rsw, Value.category, List.filter, List.take, List.drop, List.reverse, List.reverseAux, List.cons_append, List.nil_append, Option.toList, Int.toNat, Int.reduceToNat, if_pos, if_neg, reduceIte, ↓reduceIte, Nat.reduceAdd, Nat.reduceEqDiff, Nat.reduceBEq, beq_self_eq_true, Bool.not_true, Bool.not_false, Bool.and_true, Bool.and_false, Bool.true_and, Bool.false_and, gI_sI, gI_sL, gI_sA, gI_sM, gL_sI, gL_sL, gL_sA, gL_sM, aI_sI, aI_sL, aI_sA, aI_sM, aL_sI, aL_sL, aL_sA, aL_sM, BisWord_0, BisWord_13, BisWord_26, BisWord_30, BisWord_31, oi_0, oi_1, oi_4]; try dsimp only
      refine hB _ _ _ _ _ (fun m5 hm5 => ?_)
      dsimp only [ugo, uwp, ust, uct, rfd, BisWord, Nat.beq, lv_args, rlk, rs1, rs2, rdl, rky, rcd, rno, rsw, Value.category, List.filter, List.take, List.drop, List.reverse, List.reverseAux, List.cons_append, List.nil_append, Option.toList, Int.toNat, Int.reduceToNat, if_pos, if_neg, reduceIte, ↓reduceIte, Nat.reduceAdd, Nat.reduceEqDiff, Nat.reduceBEq, beq_self_eq_true, Bool.not_true, Bool.not_false, Bool.and_true, Bool.and_false, Bool.true_and, Bool.false_and, gI_sI, gI_sL, gI_sA, gI_sM, gL_sI, gL_sL, gL_sA, gL_sM, aI_sI, aI_sL, aI_sA, aI_sM, aL_sI, aL_sL, aL_sA, aL_sM, BisWord_0, BisWord_13, BisWord_26, BisWord_30, BisWord_31, oi_0, oi_1, oi_4]; try dsimp only
      unfold Qv_isWord
      try dsimp only
      exact ⟨rfl, 0, rfl, Or.inr ⟨rfl, fun q => by obtain ⟨q1, q2⟩ := q; lia⟩⟩
    · refine hB _ _ _ _ _ (fun m6 hm6 => ?_)
      dsimp only [ugo, uwp, ust, uct, rfd, BisWord, Nat.beq, lv_args, rlk, rs1, rs2, rdl, rky, rcd, rno, rsw, Value.category, List.filter, List.take, List.drop, List.reverse, List.reverseAux, List.cons_append, List.nil_append, Option.toList, Int.toNat, Int.reduceToNat, if_pos, if_neg, reduceIte, ↓reduceIte, Nat.reduceAdd, Nat.reduceEqDiff, Nat.reduceBEq, beq_self_eq_true, Bool.not_true, Bool.not_false, Bool.and_true, Bool.and_false, Bool.true_and, Bool.false_and, gI_sI, gI_sL, gI_sA, gI_sM, gL_sI, gL_sL, gL_sA, gL_sM, aI_sI, aI_sL, aI_sA, aI_sM, aL_sI, aL_sL, aL_sA, aL_sM, BisWord_0, BisWord_13, BisWord_26, BisWord_30, BisWord_31, oi_0, oi_1, oi_4]; try dsimp only
      intro p7
      refine ⟨fun h8 => ?_, fun h8 => ?_⟩
      · refine hB _ _ _ _ _ (fun m9 hm9 => ?_)
        dsimp only [ugo, uwp, ust, uct, rfd, BisWord, Nat.beq, lv_args, rlk, rs1, rs2, rdl, rky, rcd, rno, rsw, Value.category, List.filter, List.take, List.drop, List.reverse, List.reverseAux, List.cons_append, List.nil_append, Option.toList, Int.toNat, Int.reduceToNat, if_pos, if_neg, reduceIte, ↓reduceIte, Nat.reduceAdd, Nat.reduceEqDiff, Nat.reduceBEq, beq_self_eq_true, Bool.not_true, Bool.not_false, Bool.and_true, Bool.and_false, Bool.true_and, Bool.false_and, gI_sI, gI_sL, gI_sA, gI_sM, gL_sI, gL_sL, gL_sA, gL_sM, aI_sI, aI_sL, aI_sA, aI_sM, aL_sI, aL_sL, aL_sA, aL_sM, BisWord_0, BisWord_13, BisWord_26, BisWord_30, BisWord_31, oi_0, oi_1, oi_4]; try dsimp only
        refine hB _ _ _ _ _ (fun m10 hm10 => ?_)
        dsimp only [ugo, uwp, ust, uct, rfd, BisWord, Nat.beq, lv_args, rlk, rs1, rs2, rdl, rky, rcd, rno, rsw, Value.category, List.filter, List.take, List.drop, List.reverse, List.reverseAux, List.cons_append, List.nil_append, Option.toList, Int.toNat, Int.reduceToNat, if_pos, if_neg, reduceIte, ↓reduceIte, Nat.reduceAdd, Nat.reduceEqDiff, Nat.reduceBEq, beq_self_eq_true, Bool.not_true, Bool.not_false, Bool.and_true, Bool.and_false, Bool.true_and, Bool.false_and, gI_sI, gI_sL, gI_sA, gI_sM, gL_sI, gL_sL, gL_sA, gL_sM, aI_sI, aI_sL, aI_sA, aI_sM, aL_sI, aL_sL, aL_sA, aL_sM, BisWord_0, BisWord_13, BisWord_26, BisWord_30, BisWord_31, oi_0, oi_1, oi_4]; try dsimp only
        unfold Qv_isWord
        try dsimp only
        exact ⟨rfl, 0, rfl, Or.inr ⟨rfl, fun q => by obtain ⟨q1, q2⟩ := q; lia⟩⟩
      · refine hB _ _ _ _ _ (fun m11 hm11 => ?_)
        dsimp only [ugo, uwp, ust, uct, rfd, BisWord, Nat.beq, lv_args, rlk, rs1, rs2, rdl, rky, rcd, rno, rsw, Value.category, List.filter, List.take, List.drop, List.reverse, List.reverseAux, List.cons_append, List.nil_append, Option.toList, Int.toNat, Int.reduceToNat, if_pos, if_neg, reduceIte, ↓reduceIte, Nat.reduceAdd, Nat.reduceEqDiff, Nat.reduceBEq, beq_self_eq_true, Bool.not_true, Bool.not_false, Bool.and_true, Bool.and_false, Bool.true_and, Bool.false_and, gI_sI, gI_sL, gI_sA, gI_sM, gL_sI, gL_sL, gL_sA, gL_sM, aI_sI, aI_sL, aI_sA, aI_sM, aL_sI, aL_sL, aL_sA, aL_sM, BisWord_0, BisWord_13, BisWord_26, BisWord_30, BisWord_31, oi_0, oi_1, oi_4]; try dsimp only
        refine hB _ _ _ _ _ (fun m12 hm12 => ?_)
        dsimp only [ugo, uwp, ust, uct, rfd, BisWord, Nat.beq, lv_args, rlk, rs1, rs2, rdl, rky, rcd, rno, rsw, Value.category, List.filter, List.take, List.drop, List.reverse, List.reverseAux, List.cons_append, List.nil_append, Option.toList, Int.toNat, Int.reduceToNat, if_pos, if_neg, reduceIte, ↓reduceIte, Nat.reduceAdd, Nat.reduceEqDiff, Nat.reduceBEq, beq_self_eq_true, Bool.not_true, Bool.not_false, Bool.and_true, Bool.and_false, Bool.true_and, Bool.false_and, gI_sI, gI_sL, gI_sA, gI_sM, gL_sI, gL_sL, gL_sA, gL_sM, aI_sI, aI_sL, aI_sA, aI_sM, aL_sI, aL_sL, aL_sA, aL_sM, BisWord_0, BisWord_13, BisWord_26, BisWord_30, BisWord_31, oi_0, oi_1, oi_4]; try dsimp only
        unfold Qv_isWord
        try dsimp only
        exact ⟨rfl, 1, rfl, Or.inl ⟨rfl, by lia, by lia⟩⟩
  next => exact hP.elim
theorem w_isWord : UMet 15 (fun _ _ => True) Qw_isWord := fun A1 σ _ w τ h hP => v_isWord A1 σ hP w τ h
def Pv_take (σ0 : RS) (s : SpC) (n : Nat) : UP1 := fun A1 σ => match A1 with
  | [] => XrR σ0 σ s n ∧ ¬ codY s = 84 ∧ ¬ codY s = 85
  | _ => False
def Qv_take (σ0 : RS) (s : SpC) (n : Nat) : UQ1 := fun A1 σ w τ => match A1 with
  | [] => (w = some (.int 0) ∧ FlR τ (accY s)) ∨ (w = some (.int 1) ∧ XrR σ0 τ (accY s) n ∧ zAt s < 500 ∧ S1 14 σ τ)
  | _ => False
def Qw_take : UQ1 := fun A1 σ w τ => ∀ (σ0 : RS) (s : SpC) (n : Nat), Pv_take σ0 s n A1 σ → Qv_take σ0 s n A1 σ w τ
set_option maxRecDepth 100000 in
set_option maxHeartbeats 4000000 in
theorem v_take (σ0 : RS) (s : SpC) (n : Nat) : UMet 17 (Pv_take σ0 s n) (Qv_take σ0 s n) := by
  refine UMet.by Btake [(12, (fun _ _ => True), Qw_wrong)] rfl (ucc w_wrong uc0) ?_
  intro A1 σ hP K hB hW
  unfold Pv_take at hP
  split at hP
  next =>
    obtain ⟨hX, hc⟩ := hP
    intro n0
    refine hB _ _ _ _ _ (fun m1 hm1 => ?_)
    dsimp only [ugo, uwp, ust, uct, rfd, Btake, Nat.beq, lv_args, rlk, rs1, rs2, rdl, rky, rcd, rno, rsw, Value.category, List.filter, List.take, List.drop, List.reverse, List.reverseAux, List.cons_append, List.nil_append, Option.toList, Int.toNat, Int.reduceToNat, if_pos, if_neg, reduceIte, ↓reduceIte, Nat.reduceAdd, Nat.reduceEqDiff, Nat.reduceBEq, beq_self_eq_true, Bool.not_true, Bool.not_false, Bool.and_true, Bool.and_false, Bool.true_and, Bool.false_and, gI_sI, gI_sL, gI_sA, gI_sM, gL_sI, gL_sL, gL_sA, gL_sM, aI_sI, aI_sL, aI_sA, aI_sM, aL_sI, aL_sL, aL_sA, aL_sM, Btake_0, Btake_10, Btake_20, oi_1, oi_3, oi_500]; try dsimp only
    refine ⟨fun h2 => ?_, fun h2 => ?_⟩
    · refine hB _ _ _ _ _ (fun m3 hm3 => ?_)
      dsimp only [ugo, uwp, ust, uct, rfd, Btake, Nat.beq, lv_args, rlk, rs1, rs2, rdl, rky, rcd, rno, rsw, Value.category, List.filter, List.take, List.drop, List.reverse, List.reverseAux, List.cons_append, List.nil_append, Option.toList, Int.toNat, Int.reduceToNat, if_pos, if_neg, reduceIte, ↓reduceIte, Nat.reduceAdd, Nat.reduceEqDiff, Nat.reduceBEq, beq_self_eq_true, Bool.not_true, Bool.not_false, Bool.and_true, Bool.and_false, Bool.true_and, Bool.false_and, gI_sI, gI_sL, gI_sA, gI_sM, gL_sI, gL_sL, gL_sA, gL_sM, aI_sI, aI_sL, aI_sA, aI_sM, aL_sI, aL_sL, aL_sA, aL_sM, Btake_0, Btake_10, Btake_20, oi_1, oi_3, oi_500]; try dsimp only
      unfold Qv_take
      try dsimp only
      have q := hX.1.p (τ := sI σ 14 (gI σ 14 + 1)) rfl rfl rfl rfl rfl rfl (by lia) hc
      exact Or.inr ⟨rfl, ⟨q.1, hX.2.1, hX.2.2.i rfl (by decide)⟩, q.2, S1.s⟩
    · refine hB _ _ _ _ _ (fun m4 hm4 => ?_)
      dsimp only [ugo, uwp, ust, uct, rfd, Btake, Nat.beq, lv_args, rlk, rs1, rs2, rdl, rky, rcd, rno, rsw, Value.category, List.filter, List.take, List.drop, List.reverse, List.reverseAux, List.cons_append, List.nil_append, Option.toList, Int.toNat, Int.reduceToNat, if_pos, if_neg, reduceIte, ↓reduceIte, Nat.reduceAdd, Nat.reduceEqDiff, Nat.reduceBEq, beq_self_eq_true, Bool.not_true, Bool.not_false, Bool.and_true, Bool.and_false, Bool.true_and, Bool.false_and, gI_sI, gI_sL, gI_sA, gI_sM, gL_sI, gL_sL, gL_sA, gL_sM, aI_sI, aI_sL, aI_sA, aI_sM, aL_sI, aL_sL, aL_sA, aL_sM, Btake_0, Btake_10, Btake_20, oi_1, oi_3, oi_500]; try dsimp only
      refine ⟨trivial, fun w5 τ5 hq5 => ?_⟩
      obtain ⟨rfl, hf5⟩ := hq5 trivial
      dsimp only [Option.toList, List.cons_append, List.nil_append, Nat.beq, gI_sI, gI_sL, gI_sA, gI_sM, gL_sI, gL_sL, gL_sA, gL_sM, aI_sI, aI_sL, aI_sA, aI_sM, aL_sI, aL_sL, aL_sA, aL_sM]
      unfold Qv_take
      try dsimp only
      have e := hf5 hX.1.1.2
      subst e
      refine Or.inl ⟨rfl, ?_⟩
      rw [accY_l (by rw [hX.1.2.1.1]; exact Int32.le_iff_toInt_le.mp (show (500 : Int32) ≤ gI σ 14 by lia))]
      exact FlR.rai hX.1 (by decide) (by show (3 : Int32).toInt = _; rw [if_neg hc.2]; rfl) rfl
  next => exact hP.elim
theorem w_take : UMet 17 (fun _ _ => True) Qw_take := fun A1 σ _ w τ h σ0 s n hP => v_take σ0 s n A1 σ hP w τ h
def Pv_want (σ0 : RS) (s : SpC) (n : Nat) (d : Int) : UP1 := fun A1 σ => match A1 with
  | [.int x] => XrR σ0 σ s n ∧ (x.toInt, d) ∈ sgT
  | _ => False
def Qv_want (σ0 : RS) (s : SpC) (n : Nat) (d : Int) : UQ1 := fun A1 σ w τ => match A1 with
  | [.int x] => (w = some (.int 0) ∧ FlR τ (xpY d s)) ∨ (w = some (.int 1) ∧ codY s = d ∧ XrR σ0 τ (accY s) n ∧ zAt s < 500 ∧ S1 14 σ τ)
  | _ => False
def Qw_want : UQ1 := fun A1 σ w τ => ∀ (σ0 : RS) (s : SpC) (n : Nat) (d : Int), Pv_want σ0 s n d A1 σ → Qv_want σ0 s n d A1 σ w τ
set_option maxRecDepth 100000 in
set_option maxHeartbeats 4000000 in
theorem v_want (σ0 : RS) (s : SpC) (n : Nat) (d : Int) : UMet 18 (Pv_want σ0 s n d) (Qv_want σ0 s n d) := by
  refine UMet.by Bwant [(13, (fun _ _ => True), Qw_cant), (14, (fun _ _ => True), Qw_isSign), (17, (fun _ _ => True), Qw_take)] rfl (ucc w_cant (ucc w_isSign (ucc w_take uc0))) ?_
  intro A1 σ hP K hB hW
  unfold Pv_want at hP
  split at hP
  next x =>
    obtain ⟨hX, hm⟩ := hP
    have hg := hX.1.sg hm
    have hr := sgT_rg _ hm
    dsimp only at hr
    intro n0
    refine hB _ _ _ _ _ (fun m1 hm1 => ?_)
    dsimp only [ugo, uwp, ust, uct, rfd, Bwant, Nat.beq, lv_args, rlk, rs1, rs2, rdl, rky, rcd, rno, rsw, Value.category, List.filter, List.take, List.drop, List.reverse, List.reverseAux, List.cons_append, List.nil_append, Option.toList, Int.toNat, Int.reduceToNat, if_pos, if_neg, reduceIte, ↓reduceIte, Nat.reduceAdd, Nat.reduceEqDiff, Nat.reduceBEq, beq_self_eq_true, Bool.not_true, Bool.not_false, Bool.and_true, Bool.and_false, Bool.true_and, Bool.false_and, gI_sI, gI_sL, gI_sA, gI_sM, gL_sI, gL_sL, gL_sA, gL_sM, aI_sI, aI_sL, aI_sA, aI_sM, aL_sI, aL_sL, aL_sA, aL_sM, Bwant_0, Bwant_8, Bwant_15, Bwant_19]; try dsimp only
    refine ⟨trivial, fun w2 τ2 hq2 => ?_⟩
    obtain ⟨rfl, b2, rfl, hb2⟩ := hq2 trivial
    rcases hb2 with ⟨rfl, hk2⟩ | ⟨rfl, hk2⟩
    · dsimp only [Option.toList, List.cons_append, List.nil_append, Nat.beq, gI_sI, gI_sL, gI_sA, gI_sM, gL_sI, gL_sL, gL_sA, gL_sM, aI_sI, aI_sL, aI_sA, aI_sM, aL_sI, aL_sL, aL_sA, aL_sM]
      refine ⟨fun h3 => absurd h3 (by decide), fun h3 => ?_⟩
      clear h3
      refine hB _ _ _ _ _ (fun m4 hm4 => ?_)
      dsimp only [ugo, uwp, ust, uct, rfd, Bwant, Nat.beq, lv_args, rlk, rs1, rs2, rdl, rky, rcd, rno, rsw, Value.category, List.filter, List.take, List.drop, List.reverse, List.reverseAux, List.cons_append, List.nil_append, Option.toList, Int.toNat, Int.reduceToNat, if_pos, if_neg, reduceIte, ↓reduceIte, Nat.reduceAdd, Nat.reduceEqDiff, Nat.reduceBEq, beq_self_eq_true, Bool.not_true, Bool.not_false, Bool.and_true, Bool.and_false, Bool.true_and, Bool.false_and, gI_sI, gI_sL, gI_sA, gI_sM, gL_sI, gL_sL, gL_sA, gL_sM, aI_sI, aI_sL, aI_sA, aI_sM, aL_sI, aL_sL, aL_sA, aL_sM, Bwant_0, Bwant_8, Bwant_15, Bwant_19]; try dsimp only
      have hc := hg.mp hk2
      refine ⟨trivial, fun w5 τ5 hq5 => ?_⟩
      have hq5 := hq5 σ0 s n ⟨(by repeat (first | exact hX | refine XrR.i ?_ (by decide) | refine XrR.up ?_ (by omega) | refine XrR.a ?_ (by decide))), by omega, by omega⟩
      rcases hq5 with ⟨rfl, hF5⟩ | ⟨rfl, hX5, hz5, hS5⟩
      · dsimp only [Option.toList, List.cons_append, List.nil_append, Nat.beq, gI_sI, gI_sL, gI_sA, gI_sM, gL_sI, gL_sL, gL_sA, gL_sM, aI_sI, aI_sL, aI_sA, aI_sM, aL_sI, aL_sL, aL_sA, aL_sM]
        refine hB _ _ _ _ _ (fun m6 hm6 => ?_)
        dsimp only [ugo, uwp, ust, uct, rfd, Bwant, Nat.beq, lv_args, rlk, rs1, rs2, rdl, rky, rcd, rno, rsw, Value.category, List.filter, List.take, List.drop, List.reverse, List.reverseAux, List.cons_append, List.nil_append, Option.toList, Int.toNat, Int.reduceToNat, if_pos, if_neg, reduceIte, ↓reduceIte, Nat.reduceAdd, Nat.reduceEqDiff, Nat.reduceBEq, beq_self_eq_true, Bool.not_true, Bool.not_false, Bool.and_true, Bool.and_false, Bool.true_and, Bool.false_and, gI_sI, gI_sL, gI_sA, gI_sM, gL_sI, gL_sL, gL_sA, gL_sM, aI_sI, aI_sL, aI_sA, aI_sM, aL_sI, aL_sL, aL_sA, aL_sM, Bwant_0, Bwant_8, Bwant_15, Bwant_19]; try dsimp only
        unfold Qv_want
        try dsimp only
        rw [xp_y hc]
        exact Or.inl ⟨rfl, hF5⟩
      · dsimp only [Option.toList, List.cons_append, List.nil_append, Nat.beq, gI_sI, gI_sL, gI_sA, gI_sM, gL_sI, gL_sL, gL_sA, gL_sM, aI_sI, aI_sL, aI_sA, aI_sM, aL_sI, aL_sL, aL_sA, aL_sM]
        have hO5 := hS5.o (by decide)
        have h34_5 := hS5.1 34 (by decide)
        try dsimp only [Nat.beq, gI_sI, gI_sL, gI_sA, gI_sM, gL_sI, gL_sL, gL_sA, gL_sM, aI_sI, aI_sL, aI_sA, aI_sM, aL_sI, aL_sL, aL_sA, aL_sM] at h34_5
        refine hB _ _ _ _ _ (fun m7 hm7 => ?_)
        dsimp only [ugo, uwp, ust, uct, rfd, Bwant, Nat.beq, lv_args, rlk, rs1, rs2, rdl, rky, rcd, rno, rsw, Value.category, List.filter, List.take, List.drop, List.reverse, List.reverseAux, List.cons_append, List.nil_append, Option.toList, Int.toNat, Int.reduceToNat, if_pos, if_neg, reduceIte, ↓reduceIte, Nat.reduceAdd, Nat.reduceEqDiff, Nat.reduceBEq, beq_self_eq_true, Bool.not_true, Bool.not_false, Bool.and_true, Bool.and_false, Bool.true_and, Bool.false_and, gI_sI, gI_sL, gI_sA, gI_sM, gL_sI, gL_sL, gL_sA, gL_sM, aI_sI, aI_sL, aI_sA, aI_sM, aL_sI, aL_sL, aL_sA, aL_sM, Bwant_0, Bwant_8, Bwant_15, Bwant_19]; try dsimp only
        unfold Qv_want
        try dsimp only
        exact Or.inr ⟨rfl, hc, hX5, hz5, hS5⟩
    · dsimp only [Option.toList, List.cons_append, List.nil_append, Nat.beq, gI_sI, gI_sL, gI_sA, gI_sM, gL_sI, gL_sL, gL_sA, gL_sM, aI_sI, aI_sL, aI_sA, aI_sM, aL_sI, aL_sL, aL_sA, aL_sM]
      refine ⟨fun h8 => ?_, fun h8 => absurd h8 (by decide)⟩
      clear h8
      refine hB _ _ _ _ _ (fun m9 hm9 => ?_)
      dsimp only [ugo, uwp, ust, uct, rfd, Bwant, Nat.beq, lv_args, rlk, rs1, rs2, rdl, rky, rcd, rno, rsw, Value.category, List.filter, List.take, List.drop, List.reverse, List.reverseAux, List.cons_append, List.nil_append, Option.toList, Int.toNat, Int.reduceToNat, if_pos, if_neg, reduceIte, ↓reduceIte, Nat.reduceAdd, Nat.reduceEqDiff, Nat.reduceBEq, beq_self_eq_true, Bool.not_true, Bool.not_false, Bool.and_true, Bool.and_false, Bool.true_and, Bool.false_and, gI_sI, gI_sL, gI_sA, gI_sM, gL_sI, gL_sL, gL_sA, gL_sM, aI_sI, aI_sL, aI_sA, aI_sM, aL_sI, aL_sL, aL_sA, aL_sM, Bwant_0, Bwant_8, Bwant_15, Bwant_19]; try dsimp only
      refine ⟨trivial, fun w10 τ10 hq10 => ?_⟩
      have hq10 := hq10 s (XrR.s (σ0 := σ0) (s := s) (n := n) (by repeat (first | exact hX | refine XrR.i ?_ (by decide) | refine XrR.up ?_ (by omega) | refine XrR.a ?_ (by decide))))
      obtain ⟨rfl, hF10⟩ := hq10
      dsimp only [Option.toList, List.cons_append, List.nil_append, Nat.beq, gI_sI, gI_sL, gI_sA, gI_sM, gL_sI, gL_sL, gL_sA, gL_sM, aI_sI, aI_sL, aI_sA, aI_sM, aL_sI, aL_sL, aL_sA, aL_sM]
      refine hB _ _ _ _ _ (fun m11 hm11 => ?_)
      dsimp only [ugo, uwp, ust, uct, rfd, Bwant, Nat.beq, lv_args, rlk, rs1, rs2, rdl, rky, rcd, rno, rsw, Value.category, List.filter, List.take, List.drop, List.reverse, List.reverseAux, List.cons_append, List.nil_append, Option.toList, Int.toNat, Int.reduceToNat, if_pos, if_neg, reduceIte, ↓reduceIte, Nat.reduceAdd, Nat.reduceEqDiff, Nat.reduceBEq, beq_self_eq_true, Bool.not_true, Bool.not_false, Bool.and_true, Bool.and_false, Bool.true_and, Bool.false_and, gI_sI, gI_sL, gI_sA, gI_sM, gL_sI, gL_sL, gL_sA, gL_sM, aI_sI, aI_sL, aI_sA, aI_sM, aL_sI, aL_sL, aL_sA, aL_sM, Bwant_0, Bwant_8, Bwant_15, Bwant_19]; try dsimp only
      unfold Qv_want
      try dsimp only
      rw [xp_n (fun q => hk2 (hg.mpr q))]
      exact Or.inl ⟨rfl, hF10⟩
  next => exact hP.elim
theorem w_want : UMet 18 (fun _ _ => True) Qw_want := fun A1 σ _ w τ h σ0 s n d hP => v_want σ0 s n d A1 σ hP w τ h
def Pv_enter (σ0 : RS) (s : SpC) (n : Nat) : UP1 := fun A1 σ => match A1 with
  | [] => XrR σ0 σ s n ∧ n ≤ 22
  | _ => False
def Qv_enter (σ0 : RS) (s : SpC) (n : Nat) : UQ1 := fun A1 σ w τ => match A1 with
  | [] => (w = some (.int 0) ∧ n = 1 ∧ FlR τ (raiY 3 s)) ∨ (w = some (.int 1) ∧ 2 ≤ n ∧ XrR σ0 τ s (n - 1) ∧ S1 17 σ τ)
  | _ => False
def Qw_enter : UQ1 := fun A1 σ w τ => ∀ (σ0 : RS) (s : SpC) (n : Nat), Pv_enter σ0 s n A1 σ → Qv_enter σ0 s n A1 σ w τ
set_option maxRecDepth 100000 in
set_option maxHeartbeats 4000000 in
theorem v_enter (σ0 : RS) (s : SpC) (n : Nat) : UMet 19 (Pv_enter σ0 s n) (Qv_enter σ0 s n) := by
  refine UMet.by Benter [(12, (fun _ _ => True), Qw_wrong)] rfl (ucc w_wrong uc0) ?_
  intro A1 σ hP K hB hW
  unfold Pv_enter at hP
  split at hP
  next =>
    obtain ⟨hX, hn⟩ := hP
    have hd := hX.2.1
    have ea : (gI σ 17 + 1).toInt = (gI σ 17).toInt + 1 := i32_add (by omega) (by omega)
    intro n0
    refine hB _ _ _ _ _ (fun m1 hm1 => ?_)
    dsimp only [ugo, uwp, ust, uct, rfd, Benter, Nat.beq, lv_args, rlk, rs1, rs2, rdl, rky, rcd, rno, rsw, Value.category, List.filter, List.take, List.drop, List.reverse, List.reverseAux, List.cons_append, List.nil_append, Option.toList, Int.toNat, Int.reduceToNat, if_pos, if_neg, reduceIte, ↓reduceIte, Nat.reduceAdd, Nat.reduceEqDiff, Nat.reduceBEq, beq_self_eq_true, Bool.not_true, Bool.not_false, Bool.and_true, Bool.and_false, Bool.true_and, Bool.false_and, gI_sI, gI_sL, gI_sA, gI_sM, gL_sI, gL_sL, gL_sA, gL_sM, aI_sI, aI_sL, aI_sA, aI_sM, aL_sI, aL_sL, aL_sA, aL_sM, Benter_0, Benter_19, Benter_34, Benter_38, Benter_39, Benter_47, oi_1, oi_20, oi_3, oi_6]; try dsimp only
    refine ⟨fun h2 => ?_, fun h2 => ?_⟩
    · refine hB _ _ _ _ _ (fun m3 hm3 => ?_)
      dsimp only [ugo, uwp, ust, uct, rfd, Benter, Nat.beq, lv_args, rlk, rs1, rs2, rdl, rky, rcd, rno, rsw, Value.category, List.filter, List.take, List.drop, List.reverse, List.reverseAux, List.cons_append, List.nil_append, Option.toList, Int.toNat, Int.reduceToNat, if_pos, if_neg, reduceIte, ↓reduceIte, Nat.reduceAdd, Nat.reduceEqDiff, Nat.reduceBEq, beq_self_eq_true, Bool.not_true, Bool.not_false, Bool.and_true, Bool.and_false, Bool.true_and, Bool.false_and, gI_sI, gI_sL, gI_sA, gI_sM, gL_sI, gL_sL, gL_sA, gL_sM, aI_sI, aI_sL, aI_sA, aI_sM, aL_sI, aL_sL, aL_sA, aL_sM, Benter_0, Benter_19, Benter_34, Benter_38, Benter_39, Benter_47, oi_1, oi_20, oi_3, oi_6]; try dsimp only
      unfold Qv_enter
      try dsimp only
      have q := Int32.le_iff_toInt_le.mp (show gI σ 17 + 1 ≤ 20 by lia)
      have q : (gI σ 17 + 1).toInt ≤ 20 := q
      rw [ea] at q
      exact Or.inr ⟨rfl, by omega, ⟨hX.1.kp rfl rfl rfl rfl rfl rfl, ⟨by show (gI σ 17 + 1).toInt + _ = _; rw [ea]; omega, by omega⟩, hX.2.2.i rfl (by decide)⟩, S1.s⟩
    · refine hB _ _ _ _ _ (fun m4 hm4 => ?_)
      dsimp only [ugo, uwp, ust, uct, rfd, Benter, Nat.beq, lv_args, rlk, rs1, rs2, rdl, rky, rcd, rno, rsw, Value.category, List.filter, List.take, List.drop, List.reverse, List.reverseAux, List.cons_append, List.nil_append, Option.toList, Int.toNat, Int.reduceToNat, if_pos, if_neg, reduceIte, ↓reduceIte, Nat.reduceAdd, Nat.reduceEqDiff, Nat.reduceBEq, beq_self_eq_true, Bool.not_true, Bool.not_false, Bool.and_true, Bool.and_false, Bool.true_and, Bool.false_and, gI_sI, gI_sL, gI_sA, gI_sM, gL_sI, gL_sL, gL_sA, gL_sM, aI_sI, aI_sL, aI_sA, aI_sM, aL_sI, aL_sL, aL_sA, aL_sM, Benter_0, Benter_19, Benter_34, Benter_38, Benter_39, Benter_47, oi_1, oi_20, oi_3, oi_6]; try dsimp only
      intro p5
      refine ⟨fun h6 => ?_, fun h6 => ?_⟩
      · refine hB _ _ _ _ _ (fun m7 hm7 => ?_)
        dsimp only [ugo, uwp, ust, uct, rfd, Benter, Nat.beq, lv_args, rlk, rs1, rs2, rdl, rky, rcd, rno, rsw, Value.category, List.filter, List.take, List.drop, List.reverse, List.reverseAux, List.cons_append, List.nil_append, Option.toList, Int.toNat, Int.reduceToNat, if_pos, if_neg, reduceIte, ↓reduceIte, Nat.reduceAdd, Nat.reduceEqDiff, Nat.reduceBEq, beq_self_eq_true, Bool.not_true, Bool.not_false, Bool.and_true, Bool.and_false, Bool.true_and, Bool.false_and, gI_sI, gI_sL, gI_sA, gI_sM, gL_sI, gL_sL, gL_sA, gL_sM, aI_sI, aI_sL, aI_sA, aI_sM, aL_sI, aL_sL, aL_sA, aL_sM, Benter_0, Benter_19, Benter_34, Benter_38, Benter_39, Benter_47, oi_1, oi_20, oi_3, oi_6]; try dsimp only
        refine hB _ _ _ _ _ (fun m8 hm8 => ?_)
        dsimp only [ugo, uwp, ust, uct, rfd, Benter, Nat.beq, lv_args, rlk, rs1, rs2, rdl, rky, rcd, rno, rsw, Value.category, List.filter, List.take, List.drop, List.reverse, List.reverseAux, List.cons_append, List.nil_append, Option.toList, Int.toNat, Int.reduceToNat, if_pos, if_neg, reduceIte, ↓reduceIte, Nat.reduceAdd, Nat.reduceEqDiff, Nat.reduceBEq, beq_self_eq_true, Bool.not_true, Bool.not_false, Bool.and_true, Bool.and_false, Bool.true_and, Bool.false_and, gI_sI, gI_sL, gI_sA, gI_sM, gL_sI, gL_sL, gL_sA, gL_sM, aI_sI, aI_sL, aI_sA, aI_sM, aL_sI, aL_sL, aL_sA, aL_sM, Benter_0, Benter_19, Benter_34, Benter_38, Benter_39, Benter_47, oi_1, oi_20, oi_3, oi_6]; try dsimp only
        refine ⟨trivial, fun w9 τ9 hq9 => ?_⟩
        obtain ⟨rfl, hf9⟩ := hq9 trivial
        dsimp only [Option.toList, List.cons_append, List.nil_append, Nat.beq, gI_sI, gI_sL, gI_sA, gI_sM, gL_sI, gL_sL, gL_sA, gL_sM, aI_sI, aI_sL, aI_sA, aI_sM, aL_sI, aL_sL, aL_sA, aL_sM]
        unfold Qv_enter
        try dsimp only
        have e := hf9 hX.1.1.2
        subst e
        have q := Int32.lt_iff_toInt_lt.mp (show 20 < gI σ 17 + 1 by lia)
        have q : 20 < (gI σ 17 + 1).toInt := q
        rw [ea] at q
        exact Or.inl ⟨rfl, by omega, FlR.rai hX.1 (by decide) (by show (3 : Int32).toInt = _; rw [if_neg (fun q => absurd (hX.1.ki.2.1.mpr q) (by lia))]; rfl) rfl⟩
      · refine hB _ _ _ _ _ (fun m10 hm10 => ?_)
        dsimp only [ugo, uwp, ust, uct, rfd, Benter, Nat.beq, lv_args, rlk, rs1, rs2, rdl, rky, rcd, rno, rsw, Value.category, List.filter, List.take, List.drop, List.reverse, List.reverseAux, List.cons_append, List.nil_append, Option.toList, Int.toNat, Int.reduceToNat, if_pos, if_neg, reduceIte, ↓reduceIte, Nat.reduceAdd, Nat.reduceEqDiff, Nat.reduceBEq, beq_self_eq_true, Bool.not_true, Bool.not_false, Bool.and_true, Bool.and_false, Bool.true_and, Bool.false_and, gI_sI, gI_sL, gI_sA, gI_sM, gL_sI, gL_sL, gL_sA, gL_sM, aI_sI, aI_sL, aI_sA, aI_sM, aL_sI, aL_sL, aL_sA, aL_sM, Benter_0, Benter_19, Benter_34, Benter_38, Benter_39, Benter_47, oi_1, oi_20, oi_3, oi_6]; try dsimp only
        refine hB _ _ _ _ _ (fun m11 hm11 => ?_)
        dsimp only [ugo, uwp, ust, uct, rfd, Benter, Nat.beq, lv_args, rlk, rs1, rs2, rdl, rky, rcd, rno, rsw, Value.category, List.filter, List.take, List.drop, List.reverse, List.reverseAux, List.cons_append, List.nil_append, Option.toList, Int.toNat, Int.reduceToNat, if_pos, if_neg, reduceIte, ↓reduceIte, Nat.reduceAdd, Nat.reduceEqDiff, Nat.reduceBEq, beq_self_eq_true, Bool.not_true, Bool.not_false, Bool.and_true, Bool.and_false, Bool.true_and, Bool.false_and, gI_sI, gI_sL, gI_sA, gI_sM, gL_sI, gL_sL, gL_sA, gL_sM, aI_sI, aI_sL, aI_sA, aI_sM, aL_sI, aL_sL, aL_sA, aL_sM, Benter_0, Benter_19, Benter_34, Benter_38, Benter_39, Benter_47, oi_1, oi_20, oi_3, oi_6]; try dsimp only
        refine ⟨trivial, fun w12 τ12 hq12 => ?_⟩
        obtain ⟨rfl, hf12⟩ := hq12 trivial
        dsimp only [Option.toList, List.cons_append, List.nil_append, Nat.beq, gI_sI, gI_sL, gI_sA, gI_sM, gL_sI, gL_sL, gL_sA, gL_sM, aI_sI, aI_sL, aI_sA, aI_sM, aL_sI, aL_sL, aL_sA, aL_sM]
        unfold Qv_enter
        try dsimp only
        have e := hf12 hX.1.1.2
        subst e
        have q := Int32.lt_iff_toInt_lt.mp (show 20 < gI σ 17 + 1 by lia)
        have q : 20 < (gI σ 17 + 1).toInt := q
        rw [ea] at q
        exact Or.inl ⟨rfl, by omega, FlR.rai hX.1 (by decide) (by show (1 : Int32).toInt = _; rw [if_pos (hX.1.ki.2.1.mp (by lia))]; rfl) rfl⟩
  next => exact hP.elim
theorem w_enter : UMet 19 (fun _ _ => True) Qw_enter := fun A1 σ _ w τ h σ0 s n hP => v_enter σ0 s n A1 σ hP w τ h
def Pv_strength : UP1 := fun A1 σ => match A1 with
  | [.int x] => True
  | _ => False
def Qv_strength : UQ1 := fun A1 σ w τ => match A1 with
  | [.int x] => w = some (.int (stR x)) ∧ σ = τ
  | _ => False
def Qw_strength : UQ1 := fun A1 σ w τ => Pv_strength A1 σ → Qv_strength A1 σ w τ
set_option maxRecDepth 100000 in
set_option maxHeartbeats 4000000 in
theorem v_strength : UMet 22 (Pv_strength) (Qv_strength) := by
  refine UMet.by Bstrength [] rfl uc0 ?_
  intro A1 σ hP K hB hW
  unfold Pv_strength at hP
  split at hP
  next x =>
    intro n0
    refine hB _ _ _ _ _ (fun m1 hm1 => ?_)
    dsimp only [ugo, uwp, ust, uct, rfd, Bstrength, Nat.beq, lv_args, rlk, rs1, rs2, rdl, rky, rcd, rno, rsw, Value.category, List.filter, List.take, List.drop, List.reverse, List.reverseAux, List.cons_append, List.nil_append, Option.toList, Int.toNat, Int.reduceToNat, if_pos, if_neg, reduceIte, ↓reduceIte, Nat.reduceAdd, Nat.reduceEqDiff, Nat.reduceBEq, beq_self_eq_true, Bool.not_true, Bool.not_false, Bool.and_true, Bool.and_false, Bool.true_and, Bool.false_and, gI_sI, gI_sL, gI_sA, gI_sM, gL_sI, gL_sL, gL_sA, gL_sM, aI_sI, aI_sL, aI_sA, aI_sM, aL_sI, aL_sL, aL_sA, aL_sM, Bstrength_0, Bstrength_164, Bstrength_166, Bstrength_168, Bstrength_170, Bstrength_172, Bstrength_174, Bstrength_177, Bstrength_180, Bstrength_183, Bstrength_186, Bstrength_189, oi_0, oi_1, oi_10, oi_2, oi_3, oi_4, oi_5, oi_6, oi_7, oi_8, oi_9]; try dsimp only
    refine ⟨fun h2 => ?_, fun h2 => ?_⟩
    · refine hB _ _ _ _ _ (fun m3 hm3 => ?_)
      dsimp only [ugo, uwp, ust, uct, rfd, Bstrength, Nat.beq, lv_args, rlk, rs1, rs2, rdl, rky, rcd, rno, rsw, Value.category, List.filter, List.take, List.drop, List.reverse, List.reverseAux, List.cons_append, List.nil_append, Option.toList, Int.toNat, Int.reduceToNat, if_pos, if_neg, reduceIte, ↓reduceIte, Nat.reduceAdd, Nat.reduceEqDiff, Nat.reduceBEq, beq_self_eq_true, Bool.not_true, Bool.not_false, Bool.and_true, Bool.and_false, Bool.true_and, Bool.false_and, gI_sI, gI_sL, gI_sA, gI_sM, gL_sI, gL_sL, gL_sA, gL_sM, aI_sI, aI_sL, aI_sA, aI_sM, aL_sI, aL_sL, aL_sA, aL_sM, Bstrength_0, Bstrength_164, Bstrength_166, Bstrength_168, Bstrength_170, Bstrength_172, Bstrength_174, Bstrength_177, Bstrength_180, Bstrength_183, Bstrength_186, Bstrength_189, oi_0, oi_1, oi_10, oi_2, oi_3, oi_4, oi_5, oi_6, oi_7, oi_8, oi_9]; try dsimp only
      unfold Qv_strength
      try dsimp only
      refine ⟨congrArg (fun z => some (Value.int z)) ?_, rfl⟩
      unfold stR
      repeat' first | rfl | (exfalso; omega) | split
    refine ⟨fun h4 => ?_, fun h4 => ?_⟩
    · refine hB _ _ _ _ _ (fun m5 hm5 => ?_)
      dsimp only [ugo, uwp, ust, uct, rfd, Bstrength, Nat.beq, lv_args, rlk, rs1, rs2, rdl, rky, rcd, rno, rsw, Value.category, List.filter, List.take, List.drop, List.reverse, List.reverseAux, List.cons_append, List.nil_append, Option.toList, Int.toNat, Int.reduceToNat, if_pos, if_neg, reduceIte, ↓reduceIte, Nat.reduceAdd, Nat.reduceEqDiff, Nat.reduceBEq, beq_self_eq_true, Bool.not_true, Bool.not_false, Bool.and_true, Bool.and_false, Bool.true_and, Bool.false_and, gI_sI, gI_sL, gI_sA, gI_sM, gL_sI, gL_sL, gL_sA, gL_sM, aI_sI, aI_sL, aI_sA, aI_sM, aL_sI, aL_sL, aL_sA, aL_sM, Bstrength_0, Bstrength_164, Bstrength_166, Bstrength_168, Bstrength_170, Bstrength_172, Bstrength_174, Bstrength_177, Bstrength_180, Bstrength_183, Bstrength_186, Bstrength_189, oi_0, oi_1, oi_10, oi_2, oi_3, oi_4, oi_5, oi_6, oi_7, oi_8, oi_9]; try dsimp only
      unfold Qv_strength
      try dsimp only
      refine ⟨congrArg (fun z => some (Value.int z)) ?_, rfl⟩
      unfold stR
      repeat' first | rfl | (exfalso; omega) | split
    refine ⟨fun h6 => ?_, fun h6 => ?_⟩
    · refine hB _ _ _ _ _ (fun m7 hm7 => ?_)
      dsimp only [ugo, uwp, ust, uct, rfd, Bstrength, Nat.beq, lv_args, rlk, rs1, rs2, rdl, rky, rcd, rno, rsw, Value.category, List.filter, List.take, List.drop, List.reverse, List.reverseAux, List.cons_append, List.nil_append, Option.toList, Int.toNat, Int.reduceToNat, if_pos, if_neg, reduceIte, ↓reduceIte, Nat.reduceAdd, Nat.reduceEqDiff, Nat.reduceBEq, beq_self_eq_true, Bool.not_true, Bool.not_false, Bool.and_true, Bool.and_false, Bool.true_and, Bool.false_and, gI_sI, gI_sL, gI_sA, gI_sM, gL_sI, gL_sL, gL_sA, gL_sM, aI_sI, aI_sL, aI_sA, aI_sM, aL_sI, aL_sL, aL_sA, aL_sM, Bstrength_0, Bstrength_164, Bstrength_166, Bstrength_168, Bstrength_170, Bstrength_172, Bstrength_174, Bstrength_177, Bstrength_180, Bstrength_183, Bstrength_186, Bstrength_189, oi_0, oi_1, oi_10, oi_2, oi_3, oi_4, oi_5, oi_6, oi_7, oi_8, oi_9]; try dsimp only
      unfold Qv_strength
      try dsimp only
      refine ⟨congrArg (fun z => some (Value.int z)) ?_, rfl⟩
      unfold stR
      repeat' first | rfl | (exfalso; omega) | split
    refine ⟨fun h8 => ?_, fun h8 => ?_⟩
    · refine hB _ _ _ _ _ (fun m9 hm9 => ?_)
      dsimp only [ugo, uwp, ust, uct, rfd, Bstrength, Nat.beq, lv_args, rlk, rs1, rs2, rdl, rky, rcd, rno, rsw, Value.category, List.filter, List.take, List.drop, List.reverse, List.reverseAux, List.cons_append, List.nil_append, Option.toList, Int.toNat, Int.reduceToNat, if_pos, if_neg, reduceIte, ↓reduceIte, Nat.reduceAdd, Nat.reduceEqDiff, Nat.reduceBEq, beq_self_eq_true, Bool.not_true, Bool.not_false, Bool.and_true, Bool.and_false, Bool.true_and, Bool.false_and, gI_sI, gI_sL, gI_sA, gI_sM, gL_sI, gL_sL, gL_sA, gL_sM, aI_sI, aI_sL, aI_sA, aI_sM, aL_sI, aL_sL, aL_sA, aL_sM, Bstrength_0, Bstrength_164, Bstrength_166, Bstrength_168, Bstrength_170, Bstrength_172, Bstrength_174, Bstrength_177, Bstrength_180, Bstrength_183, Bstrength_186, Bstrength_189, oi_0, oi_1, oi_10, oi_2, oi_3, oi_4, oi_5, oi_6, oi_7, oi_8, oi_9]; try dsimp only
      unfold Qv_strength
      try dsimp only
      refine ⟨congrArg (fun z => some (Value.int z)) ?_, rfl⟩
      unfold stR
      repeat' first | rfl | (exfalso; omega) | split
    refine ⟨fun h10 => ?_, fun h10 => ?_⟩
    · refine hB _ _ _ _ _ (fun m11 hm11 => ?_)
      dsimp only [ugo, uwp, ust, uct, rfd, Bstrength, Nat.beq, lv_args, rlk, rs1, rs2, rdl, rky, rcd, rno, rsw, Value.category, List.filter, List.take, List.drop, List.reverse, List.reverseAux, List.cons_append, List.nil_append, Option.toList, Int.toNat, Int.reduceToNat, if_pos, if_neg, reduceIte, ↓reduceIte, Nat.reduceAdd, Nat.reduceEqDiff, Nat.reduceBEq, beq_self_eq_true, Bool.not_true, Bool.not_false, Bool.and_true, Bool.and_false, Bool.true_and, Bool.false_and, gI_sI, gI_sL, gI_sA, gI_sM, gL_sI, gL_sL, gL_sA, gL_sM, aI_sI, aI_sL, aI_sA, aI_sM, aL_sI, aL_sL, aL_sA, aL_sM, Bstrength_0, Bstrength_164, Bstrength_166, Bstrength_168, Bstrength_170, Bstrength_172, Bstrength_174, Bstrength_177, Bstrength_180, Bstrength_183, Bstrength_186, Bstrength_189, oi_0, oi_1, oi_10, oi_2, oi_3, oi_4, oi_5, oi_6, oi_7, oi_8, oi_9]; try dsimp only
      unfold Qv_strength
      try dsimp only
      refine ⟨congrArg (fun z => some (Value.int z)) ?_, rfl⟩
      unfold stR
      repeat' first | rfl | (exfalso; omega) | split
    refine ⟨fun h12 => ?_, fun h12 => ?_⟩
    · refine hB _ _ _ _ _ (fun m13 hm13 => ?_)
      dsimp only [ugo, uwp, ust, uct, rfd, Bstrength, Nat.beq, lv_args, rlk, rs1, rs2, rdl, rky, rcd, rno, rsw, Value.category, List.filter, List.take, List.drop, List.reverse, List.reverseAux, List.cons_append, List.nil_append, Option.toList, Int.toNat, Int.reduceToNat, if_pos, if_neg, reduceIte, ↓reduceIte, Nat.reduceAdd, Nat.reduceEqDiff, Nat.reduceBEq, beq_self_eq_true, Bool.not_true, Bool.not_false, Bool.and_true, Bool.and_false, Bool.true_and, Bool.false_and, gI_sI, gI_sL, gI_sA, gI_sM, gL_sI, gL_sL, gL_sA, gL_sM, aI_sI, aI_sL, aI_sA, aI_sM, aL_sI, aL_sL, aL_sA, aL_sM, Bstrength_0, Bstrength_164, Bstrength_166, Bstrength_168, Bstrength_170, Bstrength_172, Bstrength_174, Bstrength_177, Bstrength_180, Bstrength_183, Bstrength_186, Bstrength_189, oi_0, oi_1, oi_10, oi_2, oi_3, oi_4, oi_5, oi_6, oi_7, oi_8, oi_9]; try dsimp only
      unfold Qv_strength
      try dsimp only
      refine ⟨congrArg (fun z => some (Value.int z)) ?_, rfl⟩
      unfold stR
      repeat' first | rfl | (exfalso; omega) | split
    refine ⟨fun h14 => ?_, fun h14 => ?_⟩
    · refine hB _ _ _ _ _ (fun m15 hm15 => ?_)
      dsimp only [ugo, uwp, ust, uct, rfd, Bstrength, Nat.beq, lv_args, rlk, rs1, rs2, rdl, rky, rcd, rno, rsw, Value.category, List.filter, List.take, List.drop, List.reverse, List.reverseAux, List.cons_append, List.nil_append, Option.toList, Int.toNat, Int.reduceToNat, if_pos, if_neg, reduceIte, ↓reduceIte, Nat.reduceAdd, Nat.reduceEqDiff, Nat.reduceBEq, beq_self_eq_true, Bool.not_true, Bool.not_false, Bool.and_true, Bool.and_false, Bool.true_and, Bool.false_and, gI_sI, gI_sL, gI_sA, gI_sM, gL_sI, gL_sL, gL_sA, gL_sM, aI_sI, aI_sL, aI_sA, aI_sM, aL_sI, aL_sL, aL_sA, aL_sM, Bstrength_0, Bstrength_164, Bstrength_166, Bstrength_168, Bstrength_170, Bstrength_172, Bstrength_174, Bstrength_177, Bstrength_180, Bstrength_183, Bstrength_186, Bstrength_189, oi_0, oi_1, oi_10, oi_2, oi_3, oi_4, oi_5, oi_6, oi_7, oi_8, oi_9]; try dsimp only
      unfold Qv_strength
      try dsimp only
      refine ⟨congrArg (fun z => some (Value.int z)) ?_, rfl⟩
      unfold stR
      repeat' first | rfl | (exfalso; omega) | split
    refine ⟨fun h16 => ?_, fun h16 => ?_⟩
    · refine hB _ _ _ _ _ (fun m17 hm17 => ?_)
      dsimp only [ugo, uwp, ust, uct, rfd, Bstrength, Nat.beq, lv_args, rlk, rs1, rs2, rdl, rky, rcd, rno, rsw, Value.category, List.filter, List.take, List.drop, List.reverse, List.reverseAux, List.cons_append, List.nil_append, Option.toList, Int.toNat, Int.reduceToNat, if_pos, if_neg, reduceIte, ↓reduceIte, Nat.reduceAdd, Nat.reduceEqDiff, Nat.reduceBEq, beq_self_eq_true, Bool.not_true, Bool.not_false, Bool.and_true, Bool.and_false, Bool.true_and, Bool.false_and, gI_sI, gI_sL, gI_sA, gI_sM, gL_sI, gL_sL, gL_sA, gL_sM, aI_sI, aI_sL, aI_sA, aI_sM, aL_sI, aL_sL, aL_sA, aL_sM, Bstrength_0, Bstrength_164, Bstrength_166, Bstrength_168, Bstrength_170, Bstrength_172, Bstrength_174, Bstrength_177, Bstrength_180, Bstrength_183, Bstrength_186, Bstrength_189, oi_0, oi_1, oi_10, oi_2, oi_3, oi_4, oi_5, oi_6, oi_7, oi_8, oi_9]; try dsimp only
      unfold Qv_strength
      try dsimp only
      refine ⟨congrArg (fun z => some (Value.int z)) ?_, rfl⟩
      unfold stR
      repeat' first | rfl | (exfalso; omega) | split
    refine ⟨fun h18 => ?_, fun h18 => ?_⟩
    · refine hB _ _ _ _ _ (fun m19 hm19 => ?_)
      dsimp only [ugo, uwp, ust, uct, rfd, Bstrength, Nat.beq, lv_args, rlk, rs1, rs2, rdl, rky, rcd, rno, rsw, Value.category, List.filter, List.take, List.drop, List.reverse, List.reverseAux, List.cons_append, List.nil_append, Option.toList, Int.toNat, Int.reduceToNat, if_pos, if_neg, reduceIte, ↓reduceIte, Nat.reduceAdd, Nat.reduceEqDiff, Nat.reduceBEq, beq_self_eq_true, Bool.not_true, Bool.not_false, Bool.and_true, Bool.and_false, Bool.true_and, Bool.false_and, gI_sI, gI_sL, gI_sA, gI_sM, gL_sI, gL_sL, gL_sA, gL_sM, aI_sI, aI_sL, aI_sA, aI_sM, aL_sI, aL_sL, aL_sA, aL_sM, Bstrength_0, Bstrength_164, Bstrength_166, Bstrength_168, Bstrength_170, Bstrength_172, Bstrength_174, Bstrength_177, Bstrength_180, Bstrength_183, Bstrength_186, Bstrength_189, oi_0, oi_1, oi_10, oi_2, oi_3, oi_4, oi_5, oi_6, oi_7, oi_8, oi_9]; try dsimp only
      unfold Qv_strength
      try dsimp only
      refine ⟨congrArg (fun z => some (Value.int z)) ?_, rfl⟩
      unfold stR
      repeat' first | rfl | (exfalso; omega) | split
    refine ⟨fun h20 => ?_, fun h20 => ?_⟩
    · refine hB _ _ _ _ _ (fun m21 hm21 => ?_)
      dsimp only [ugo, uwp, ust, uct, rfd, Bstrength, Nat.beq, lv_args, rlk, rs1, rs2, rdl, rky, rcd, rno, rsw, Value.category, List.filter, List.take, List.drop, List.reverse, List.reverseAux, List.cons_append, List.nil_append, Option.toList, Int.toNat, Int.reduceToNat, if_pos, if_neg, reduceIte, ↓reduceIte, Nat.reduceAdd, Nat.reduceEqDiff, Nat.reduceBEq, beq_self_eq_true, Bool.not_true, Bool.not_false, Bool.and_true, Bool.and_false, Bool.true_and, Bool.false_and, gI_sI, gI_sL, gI_sA, gI_sM, gL_sI, gL_sL, gL_sA, gL_sM, aI_sI, aI_sL, aI_sA, aI_sM, aL_sI, aL_sL, aL_sA, aL_sM, Bstrength_0, Bstrength_164, Bstrength_166, Bstrength_168, Bstrength_170, Bstrength_172, Bstrength_174, Bstrength_177, Bstrength_180, Bstrength_183, Bstrength_186, Bstrength_189, oi_0, oi_1, oi_10, oi_2, oi_3, oi_4, oi_5, oi_6, oi_7, oi_8, oi_9]; try dsimp only
      unfold Qv_strength
      try dsimp only
      refine ⟨congrArg (fun z => some (Value.int z)) ?_, rfl⟩
      unfold stR
      repeat' first | rfl | (exfalso; omega) | split
    refine ⟨fun h22 => ?_, fun h22 => ?_⟩
    · refine hB _ _ _ _ _ (fun m23 hm23 => ?_)
      dsimp only [ugo, uwp, ust, uct, rfd, Bstrength, Nat.beq, lv_args, rlk, rs1, rs2, rdl, rky, rcd, rno, rsw, Value.category, List.filter, List.take, List.drop, List.reverse, List.reverseAux, List.cons_append, List.nil_append, Option.toList, Int.toNat, Int.reduceToNat, if_pos, if_neg, reduceIte, ↓reduceIte, Nat.reduceAdd, Nat.reduceEqDiff, Nat.reduceBEq, beq_self_eq_true, Bool.not_true, Bool.not_false, Bool.and_true, Bool.and_false, Bool.true_and, Bool.false_and, gI_sI, gI_sL, gI_sA, gI_sM, gL_sI, gL_sL, gL_sA, gL_sM, aI_sI, aI_sL, aI_sA, aI_sM, aL_sI, aL_sL, aL_sA, aL_sM, Bstrength_0, Bstrength_164, Bstrength_166, Bstrength_168, Bstrength_170, Bstrength_172, Bstrength_174, Bstrength_177, Bstrength_180, Bstrength_183, Bstrength_186, Bstrength_189, oi_0, oi_1, oi_10, oi_2, oi_3, oi_4, oi_5, oi_6, oi_7, oi_8, oi_9]; try dsimp only
      unfold Qv_strength
      try dsimp only
      refine ⟨congrArg (fun z => some (Value.int z)) ?_, rfl⟩
      unfold stR
      repeat' first | rfl | (exfalso; omega) | split
    refine ⟨fun h24 => ?_, fun h24 => ?_⟩
    · refine hB _ _ _ _ _ (fun m25 hm25 => ?_)
      dsimp only [ugo, uwp, ust, uct, rfd, Bstrength, Nat.beq, lv_args, rlk, rs1, rs2, rdl, rky, rcd, rno, rsw, Value.category, List.filter, List.take, List.drop, List.reverse, List.reverseAux, List.cons_append, List.nil_append, Option.toList, Int.toNat, Int.reduceToNat, if_pos, if_neg, reduceIte, ↓reduceIte, Nat.reduceAdd, Nat.reduceEqDiff, Nat.reduceBEq, beq_self_eq_true, Bool.not_true, Bool.not_false, Bool.and_true, Bool.and_false, Bool.true_and, Bool.false_and, gI_sI, gI_sL, gI_sA, gI_sM, gL_sI, gL_sL, gL_sA, gL_sM, aI_sI, aI_sL, aI_sA, aI_sM, aL_sI, aL_sL, aL_sA, aL_sM, Bstrength_0, Bstrength_164, Bstrength_166, Bstrength_168, Bstrength_170, Bstrength_172, Bstrength_174, Bstrength_177, Bstrength_180, Bstrength_183, Bstrength_186, Bstrength_189, oi_0, oi_1, oi_10, oi_2, oi_3, oi_4, oi_5, oi_6, oi_7, oi_8, oi_9]; try dsimp only
      unfold Qv_strength
      try dsimp only
      refine ⟨congrArg (fun z => some (Value.int z)) ?_, rfl⟩
      unfold stR
      repeat' first | rfl | (exfalso; omega) | split
    refine ⟨fun h26 => ?_, fun h26 => ?_⟩
    · refine hB _ _ _ _ _ (fun m27 hm27 => ?_)
      dsimp only [ugo, uwp, ust, uct, rfd, Bstrength, Nat.beq, lv_args, rlk, rs1, rs2, rdl, rky, rcd, rno, rsw, Value.category, List.filter, List.take, List.drop, List.reverse, List.reverseAux, List.cons_append, List.nil_append, Option.toList, Int.toNat, Int.reduceToNat, if_pos, if_neg, reduceIte, ↓reduceIte, Nat.reduceAdd, Nat.reduceEqDiff, Nat.reduceBEq, beq_self_eq_true, Bool.not_true, Bool.not_false, Bool.and_true, Bool.and_false, Bool.true_and, Bool.false_and, gI_sI, gI_sL, gI_sA, gI_sM, gL_sI, gL_sL, gL_sA, gL_sM, aI_sI, aI_sL, aI_sA, aI_sM, aL_sI, aL_sL, aL_sA, aL_sM, Bstrength_0, Bstrength_164, Bstrength_166, Bstrength_168, Bstrength_170, Bstrength_172, Bstrength_174, Bstrength_177, Bstrength_180, Bstrength_183, Bstrength_186, Bstrength_189, oi_0, oi_1, oi_10, oi_2, oi_3, oi_4, oi_5, oi_6, oi_7, oi_8, oi_9]; try dsimp only
      unfold Qv_strength
      try dsimp only
      refine ⟨congrArg (fun z => some (Value.int z)) ?_, rfl⟩
      unfold stR
      repeat' first | rfl | (exfalso; omega) | split
    refine ⟨fun h28 => ?_, fun h28 => ?_⟩
    · refine hB _ _ _ _ _ (fun m29 hm29 => ?_)
      dsimp only [ugo, uwp, ust, uct, rfd, Bstrength, Nat.beq, lv_args, rlk, rs1, rs2, rdl, rky, rcd, rno, rsw, Value.category, List.filter, List.take, List.drop, List.reverse, List.reverseAux, List.cons_append, List.nil_append, Option.toList, Int.toNat, Int.reduceToNat, if_pos, if_neg, reduceIte, ↓reduceIte, Nat.reduceAdd, Nat.reduceEqDiff, Nat.reduceBEq, beq_self_eq_true, Bool.not_true, Bool.not_false, Bool.and_true, Bool.and_false, Bool.true_and, Bool.false_and, gI_sI, gI_sL, gI_sA, gI_sM, gL_sI, gL_sL, gL_sA, gL_sM, aI_sI, aI_sL, aI_sA, aI_sM, aL_sI, aL_sL, aL_sA, aL_sM, Bstrength_0, Bstrength_164, Bstrength_166, Bstrength_168, Bstrength_170, Bstrength_172, Bstrength_174, Bstrength_177, Bstrength_180, Bstrength_183, Bstrength_186, Bstrength_189, oi_0, oi_1, oi_10, oi_2, oi_3, oi_4, oi_5, oi_6, oi_7, oi_8, oi_9]; try dsimp only
      unfold Qv_strength
      try dsimp only
      refine ⟨congrArg (fun z => some (Value.int z)) ?_, rfl⟩
      unfold stR
      repeat' first | rfl | (exfalso; omega) | split
    refine ⟨fun h30 => ?_, fun h30 => ?_⟩
    · refine hB _ _ _ _ _ (fun m31 hm31 => ?_)
      dsimp only [ugo, uwp, ust, uct, rfd, Bstrength, Nat.beq, lv_args, rlk, rs1, rs2, rdl, rky, rcd, rno, rsw, Value.category, List.filter, List.take, List.drop, List.reverse, List.reverseAux, List.cons_append, List.nil_append, Option.toList, Int.toNat, Int.reduceToNat, if_pos, if_neg, reduceIte, ↓reduceIte, Nat.reduceAdd, Nat.reduceEqDiff, Nat.reduceBEq, beq_self_eq_true, Bool.not_true, Bool.not_false, Bool.and_true, Bool.and_false, Bool.true_and, Bool.false_and, gI_sI, gI_sL, gI_sA, gI_sM, gL_sI, gL_sL, gL_sA, gL_sM, aI_sI, aI_sL, aI_sA, aI_sM, aL_sI, aL_sL, aL_sA, aL_sM, Bstrength_0, Bstrength_164, Bstrength_166, Bstrength_168, Bstrength_170, Bstrength_172, Bstrength_174, Bstrength_177, Bstrength_180, Bstrength_183, Bstrength_186, Bstrength_189, oi_0, oi_1, oi_10, oi_2, oi_3, oi_4, oi_5, oi_6, oi_7, oi_8, oi_9]; try dsimp only
      unfold Qv_strength
      try dsimp only
      refine ⟨congrArg (fun z => some (Value.int z)) ?_, rfl⟩
      unfold stR
      repeat' first | rfl | (exfalso; omega) | split
    refine ⟨fun h32 => ?_, fun h32 => ?_⟩
    · refine hB _ _ _ _ _ (fun m33 hm33 => ?_)
      dsimp only [ugo, uwp, ust, uct, rfd, Bstrength, Nat.beq, lv_args, rlk, rs1, rs2, rdl, rky, rcd, rno, rsw, Value.category, List.filter, List.take, List.drop, List.reverse, List.reverseAux, List.cons_append, List.nil_append, Option.toList, Int.toNat, Int.reduceToNat, if_pos, if_neg, reduceIte, ↓reduceIte, Nat.reduceAdd, Nat.reduceEqDiff, Nat.reduceBEq, beq_self_eq_true, Bool.not_true, Bool.not_false, Bool.and_true, Bool.and_false, Bool.true_and, Bool.false_and, gI_sI, gI_sL, gI_sA, gI_sM, gL_sI, gL_sL, gL_sA, gL_sM, aI_sI, aI_sL, aI_sA, aI_sM, aL_sI, aL_sL, aL_sA, aL_sM, Bstrength_0, Bstrength_164, Bstrength_166, Bstrength_168, Bstrength_170, Bstrength_172, Bstrength_174, Bstrength_177, Bstrength_180, Bstrength_183, Bstrength_186, Bstrength_189, oi_0, oi_1, oi_10, oi_2, oi_3, oi_4, oi_5, oi_6, oi_7, oi_8, oi_9]; try dsimp only
      unfold Qv_strength
      try dsimp only
      refine ⟨congrArg (fun z => some (Value.int z)) ?_, rfl⟩
      unfold stR
      repeat' first | rfl | (exfalso; omega) | split
    refine ⟨fun h34 => ?_, fun h34 => ?_⟩
    · refine hB _ _ _ _ _ (fun m35 hm35 => ?_)
      dsimp only [ugo, uwp, ust, uct, rfd, Bstrength, Nat.beq, lv_args, rlk, rs1, rs2, rdl, rky, rcd, rno, rsw, Value.category, List.filter, List.take, List.drop, List.reverse, List.reverseAux, List.cons_append, List.nil_append, Option.toList, Int.toNat, Int.reduceToNat, if_pos, if_neg, reduceIte, ↓reduceIte, Nat.reduceAdd, Nat.reduceEqDiff, Nat.reduceBEq, beq_self_eq_true, Bool.not_true, Bool.not_false, Bool.and_true, Bool.and_false, Bool.true_and, Bool.false_and, gI_sI, gI_sL, gI_sA, gI_sM, gL_sI, gL_sL, gL_sA, gL_sM, aI_sI, aI_sL, aI_sA, aI_sM, aL_sI, aL_sL, aL_sA, aL_sM, Bstrength_0, Bstrength_164, Bstrength_166, Bstrength_168, Bstrength_170, Bstrength_172, Bstrength_174, Bstrength_177, Bstrength_180, Bstrength_183, Bstrength_186, Bstrength_189, oi_0, oi_1, oi_10, oi_2, oi_3, oi_4, oi_5, oi_6, oi_7, oi_8, oi_9]; try dsimp only
      unfold Qv_strength
      try dsimp only
      refine ⟨congrArg (fun z => some (Value.int z)) ?_, rfl⟩
      unfold stR
      repeat' first | rfl | (exfalso; omega) | split
    refine ⟨fun h36 => ?_, fun h36 => ?_⟩
    · refine hB _ _ _ _ _ (fun m37 hm37 => ?_)
      dsimp only [ugo, uwp, ust, uct, rfd, Bstrength, Nat.beq, lv_args, rlk, rs1, rs2, rdl, rky, rcd, rno, rsw, Value.category, List.filter, List.take, List.drop, List.reverse, List.reverseAux, List.cons_append, List.nil_append, Option.toList, Int.toNat, Int.reduceToNat, if_pos, if_neg, reduceIte, ↓reduceIte, Nat.reduceAdd, Nat.reduceEqDiff, Nat.reduceBEq, beq_self_eq_true, Bool.not_true, Bool.not_false, Bool.and_true, Bool.and_false, Bool.true_and, Bool.false_and, gI_sI, gI_sL, gI_sA, gI_sM, gL_sI, gL_sL, gL_sA, gL_sM, aI_sI, aI_sL, aI_sA, aI_sM, aL_sI, aL_sL, aL_sA, aL_sM, Bstrength_0, Bstrength_164, Bstrength_166, Bstrength_168, Bstrength_170, Bstrength_172, Bstrength_174, Bstrength_177, Bstrength_180, Bstrength_183, Bstrength_186, Bstrength_189, oi_0, oi_1, oi_10, oi_2, oi_3, oi_4, oi_5, oi_6, oi_7, oi_8, oi_9]; try dsimp only
      unfold Qv_strength
      try dsimp only
      refine ⟨congrArg (fun z => some (Value.int z)) ?_, rfl⟩
      unfold stR
      repeat' first | rfl | (exfalso; omega) | split
    refine ⟨fun h38 => ?_, fun h38 => ?_⟩
    · refine hB _ _ _ _ _ (fun m39 hm39 => ?_)
      dsimp only [ugo, uwp, ust, uct, rfd, Bstrength, Nat.beq, lv_args, rlk, rs1, rs2, rdl, rky, rcd, rno, rsw, Value.category, List.filter, List.take, List.drop, List.reverse, List.reverseAux, List.cons_append, List.nil_append, Option.toList, Int.toNat, Int.reduceToNat, if_pos, if_neg, reduceIte, ↓reduceIte, Nat.reduceAdd, Nat.reduceEqDiff, Nat.reduceBEq, beq_self_eq_true, Bool.not_true, Bool.not_false, Bool.and_true, Bool.and_false, Bool.true_and, Bool.false_and, gI_sI, gI_sL, gI_sA, gI_sM, gL_sI, gL_sL, gL_sA, gL_sM, aI_sI, aI_sL, aI_sA, aI_sM, aL_sI, aL_sL, aL_sA, aL_sM, Bstrength_0, Bstrength_164, Bstrength_166, Bstrength_168, Bstrength_170, Bstrength_172, Bstrength_174, Bstrength_177, Bstrength_180, Bstrength_183, Bstrength_186, Bstrength_189, oi_0, oi_1, oi_10, oi_2, oi_3, oi_4, oi_5, oi_6, oi_7, oi_8, oi_9]; try dsimp only
      unfold Qv_strength
      try dsimp only
      refine ⟨congrArg (fun z => some (Value.int z)) ?_, rfl⟩
      unfold stR
      repeat' first | rfl | (exfalso; omega) | split
    refine hB _ _ _ _ _ (fun m40 hm40 => ?_)
    dsimp only [ugo, uwp, ust, uct, rfd, Bstrength, Nat.beq, lv_args, rlk, rs1, rs2, rdl, rky, rcd, rno, rsw, Value.category, List.filter, List.take, List.drop, List.reverse, List.reverseAux, List.cons_append, List.nil_append, Option.toList, Int.toNat, Int.reduceToNat, if_pos, if_neg, reduceIte, ↓reduceIte, Nat.reduceAdd, Nat.reduceEqDiff, Nat.reduceBEq, beq_self_eq_true, Bool.not_true, Bool.not_false, Bool.and_true, Bool.and_false, Bool.true_and, Bool.false_and, gI_sI, gI_sL, gI_sA, gI_sM, gL_sI, gL_sL, gL_sA, gL_sM, aI_sI, aI_sL, aI_sA, aI_sM, aL_sI, aL_sL, aL_sA, aL_sM, Bstrength_0, Bstrength_164, Bstrength_166, Bstrength_168, Bstrength_170, Bstrength_172, Bstrength_174, Bstrength_177, Bstrength_180, Bstrength_183, Bstrength_186, Bstrength_189, oi_0, oi_1, oi_10, oi_2, oi_3, oi_4, oi_5, oi_6, oi_7, oi_8, oi_9]; try dsimp only
    unfold Qv_strength
    try dsimp only
    refine ⟨congrArg (fun z => some (Value.int z)) ?_, rfl⟩
    unfold stR
    repeat' first | rfl | (exfalso; omega) | split
  next => exact hP.elim
theorem w_strength : UMet 22 (fun _ _ => True) Qw_strength := fun A1 σ _ w τ h hP => v_strength A1 σ hP w τ h
def Pv_isType : UP1 := fun A1 σ => match A1 with
  | [.int t] => True
  | _ => False
def Qv_isType : UQ1 := fun A1 σ w τ => match A1 with
  | [.int t] => σ = τ ∧ ∃ b : Int32, w = some (.int b) ∧ ((b = 1 ∧ aI σ 3 t.toNatClampNeg = 4 ∧ aI σ 6 t.toNatClampNeg ≤ 4) ∨ (b = 0 ∧ ¬ (aI σ 3 t.toNatClampNeg = 4 ∧ aI σ 6 t.toNatClampNeg ≤ 4)))
  | _ => False
def Qw_isType : UQ1 := fun A1 σ w τ => Pv_isType A1 σ → Qv_isType A1 σ w τ
set_option maxRecDepth 100000 in
set_option maxHeartbeats 4000000 in
theorem v_isType : UMet 23 (Pv_isType) (Qv_isType) := by
  refine UMet.by BisType [] rfl uc0 ?_
  intro A1 σ hP K hB hW
  unfold Pv_isType at hP
  split at hP
  next t =>
    intro n0
    refine hB _ _ _ _ _ (fun m1 hm1 => ?_)
    dsimp only [ugo, uwp, ust, uct, rfd, BisType, Nat.beq, lv_args, rlk, rs1, rs2, rdl, rky, rcd, rno, rsw, Value.category, List.filter, List.take, List.drop, List.reverse, List.reverseAux, List.cons_append, List.nil_append, Option.toList, Int.toNat, Int.reduceToNat, if_pos, if_neg, reduceIte, ↓reduceIte, Nat.reduceAdd, Nat.reduceEqDiff, Nat.reduceBEq, beq_self_eq_true, Bool.not_true, Bool.not_false, Bool.and_true, Bool.and_false, Bool.true_and, Bool.false_and, gI_sI, gI_sL, gI_sA, gI_sM, gL_sI, gL_sL, gL_sA, gL_sM, aI_sI, aI_sL, aI_sA, aI_sM, aL_sI, aL_sL, aL_sA, aL_sM, BisType_0, BisType_10, BisType_20, BisType_24, BisType_25, oi_0, oi_1, oi_4]; try dsimp only
    intro p2
    refine ⟨fun h3 => ?_, fun h3 => ?_⟩
    · refine hB _ _ _ _ _ (fun m4 hm4 => ?_)
      dsimp only [ugo, uwp, ust, uct, rfd, BisType, Nat.beq, lv_args, rlk, rs1, rs2, rdl, rky, rcd, rno, rsw, Value.category, List.filter, List.take, List.drop, List.reverse, List.reverseAux, List.cons_append, List.nil_append, Option.toList, Int.toNat, Int.reduceToNat, if_pos, if_neg, reduceIte, ↓reduceIte, Nat.reduceAdd, Nat.reduceEqDiff, Nat.reduceBEq, beq_self_eq_true, Bool.not_true, Bool.not_false, Bool.and_true, Bool.and_false, Bool.true_and, Bool.false_and, gI_sI, gI_sL, gI_sA, gI_sM, gL_sI, gL_sL, gL_sA, gL_sM, aI_sI, aI_sL, aI_sA, aI_sM, aL_sI, aL_sL, aL_sA, aL_sM, BisType_0, BisType_10, BisType_20, BisType_24, BisType_25, oi_0, oi_1, oi_4]; try dsimp only
      refine hB _ _ _ _ _ (fun m5 hm5 => ?_)
      dsimp only [ugo, uwp, ust, uct, rfd, BisType, Nat.beq, lv_args, rlk, rs1, rs2, rdl, rky, rcd, rno, rsw, Value.category, List.filter, List.take, List.drop, List.reverse, List.reverseAux, List.cons_append, List.nil_append, Option.toList, Int.toNat, Int.reduceToNat, if_pos, if_neg, reduceIte, ↓reduceIte, Nat.reduceAdd, Nat.reduceEqDiff, Nat.reduceBEq, beq_self_eq_true, Bool.not_true, Bool.not_false, Bool.and_true, Bool.and_false, Bool.true_and, Bool.false_and, gI_sI, gI_sL, gI_sA, gI_sM, gL_sI, gL_sL, gL_sA, gL_sM, aI_sI, aI_sL, aI_sA, aI_sM, aL_sI, aL_sL, aL_sA, aL_sM, BisType_0, BisType_10, BisType_20, BisType_24, BisType_25, oi_0, oi_1, oi_4]; try dsimp only
      unfold Qv_isType
      try dsimp only
      exact ⟨rfl, 0, rfl, Or.inr ⟨rfl, fun q => by obtain ⟨q1, q2⟩ := q; lia⟩⟩
    · refine hB _ _ _ _ _ (fun m6 hm6 => ?_)
      dsimp only [ugo, uwp, ust, uct, rfd, BisType, Nat.beq, lv_args, rlk, rs1, rs2, rdl, rky, rcd, rno, rsw, Value.category, List.filter, List.take, List.drop, List.reverse, List.reverseAux, List.cons_append, List.nil_append, Option.toList, Int.toNat, Int.reduceToNat, if_pos, if_neg, reduceIte, ↓reduceIte, Nat.reduceAdd, Nat.reduceEqDiff, Nat.reduceBEq, beq_self_eq_true, Bool.not_true, Bool.not_false, Bool.and_true, Bool.and_false, Bool.true_and, Bool.false_and, gI_sI, gI_sL, gI_sA, gI_sM, gL_sI, gL_sL, gL_sA, gL_sM, aI_sI, aI_sL, aI_sA, aI_sM, aL_sI, aL_sL, aL_sA, aL_sM, BisType_0, BisType_10, BisType_20, BisType_24, BisType_25, oi_0, oi_1, oi_4]; try dsimp only
      intro p7
      refine ⟨fun h8 => ?_, fun h8 => ?_⟩
      · refine hB _ _ _ _ _ (fun m9 hm9 => ?_)
        dsimp only [ugo, uwp, ust, uct, rfd, BisType, Nat.beq, lv_args, rlk, rs1, rs2, rdl, rky, rcd, rno, rsw, Value.category, List.filter, List.take, List.drop, List.reverse, List.reverseAux, List.cons_append, List.nil_append, Option.toList, Int.toNat, Int.reduceToNat, if_pos, if_neg, reduceIte, ↓reduceIte, Nat.reduceAdd, Nat.reduceEqDiff, Nat.reduceBEq, beq_self_eq_true, Bool.not_true, Bool.not_false, Bool.and_true, Bool.and_false, Bool.true_and, Bool.false_and, gI_sI, gI_sL, gI_sA, gI_sM, gL_sI, gL_sL, gL_sA, gL_sM, aI_sI, aI_sL, aI_sA, aI_sM, aL_sI, aL_sL, aL_sA, aL_sM, BisType_0, BisType_10, BisType_20, BisType_24, BisType_25, oi_0, oi_1, oi_4]; try dsimp only
        refine hB _ _ _ _ _ (fun m10 hm10 => ?_)
        dsimp only [ugo, uwp, ust, uct, rfd, BisType, Nat.beq, lv_args, rlk, rs1, rs2, rdl, rky, rcd, rno, rsw, Value.category, List.filter, List.take, List.drop, List.reverse, List.reverseAux, List.cons_append, List.nil_append, Option.toList, Int.toNat, Int.reduceToNat, if_pos, if_neg, reduceIte, ↓reduceIte, Nat.reduceAdd, Nat.reduceEqDiff, Nat.reduceBEq, beq_self_eq_true, Bool.not_true, Bool.not_false, Bool.and_true, Bool.and_false, Bool.true_and, Bool.false_and, gI_sI, gI_sL, gI_sA, gI_sM, gL_sI, gL_sL, gL_sA, gL_sM, aI_sI, aI_sL, aI_sA, aI_sM, aL_sI, aL_sL, aL_sA, aL_sM, BisType_0, BisType_10, BisType_20, BisType_24, BisType_25, oi_0, oi_1, oi_4]; try dsimp only
        unfold Qv_isType
        try dsimp only
        exact ⟨rfl, 0, rfl, Or.inr ⟨rfl, fun q => by obtain ⟨q1, q2⟩ := q; lia⟩⟩
      · refine hB _ _ _ _ _ (fun m11 hm11 => ?_)
        dsimp only [ugo, uwp, ust, uct, rfd, BisType, Nat.beq, lv_args, rlk, rs1, rs2, rdl, rky, rcd, rno, rsw, Value.category, List.filter, List.take, List.drop, List.reverse, List.reverseAux, List.cons_append, List.nil_append, Option.toList, Int.toNat, Int.reduceToNat, if_pos, if_neg, reduceIte, ↓reduceIte, Nat.reduceAdd, Nat.reduceEqDiff, Nat.reduceBEq, beq_self_eq_true, Bool.not_true, Bool.not_false, Bool.and_true, Bool.and_false, Bool.true_and, Bool.false_and, gI_sI, gI_sL, gI_sA, gI_sM, gL_sI, gL_sL, gL_sA, gL_sM, aI_sI, aI_sL, aI_sA, aI_sM, aL_sI, aL_sL, aL_sA, aL_sM, BisType_0, BisType_10, BisType_20, BisType_24, BisType_25, oi_0, oi_1, oi_4]; try dsimp only
        refine hB _ _ _ _ _ (fun m12 hm12 => ?_)
        dsimp only [ugo, uwp, ust, uct, rfd, BisType, Nat.beq, lv_args, rlk, rs1, rs2, rdl, rky, rcd, rno, rsw, Value.category, List.filter, List.take, List.drop, List.reverse, List.reverseAux, List.cons_append, List.nil_append, Option.toList, Int.toNat, Int.reduceToNat, if_pos, if_neg, reduceIte, ↓reduceIte, Nat.reduceAdd, Nat.reduceEqDiff, Nat.reduceBEq, beq_self_eq_true, Bool.not_true, Bool.not_false, Bool.and_true, Bool.and_false, Bool.true_and, Bool.false_and, gI_sI, gI_sL, gI_sA, gI_sM, gL_sI, gL_sL, gL_sA, gL_sM, aI_sI, aI_sL, aI_sA, aI_sM, aL_sI, aL_sL, aL_sA, aL_sM, BisType_0, BisType_10, BisType_20, BisType_24, BisType_25, oi_0, oi_1, oi_4]; try dsimp only
        unfold Qv_isType
        try dsimp only
        exact ⟨rfl, 1, rfl, Or.inl ⟨rfl, by lia, by lia⟩⟩
  next => exact hP.elim
theorem w_isType : UMet 23 (fun _ _ => True) Qw_isType := fun A1 σ _ w τ h hP => v_isType A1 σ hP w τ h
def Pv_isSetAt : UP1 := fun A1 σ => match A1 with
  | [.int t] => True
  | _ => False
def Qv_isSetAt : UQ1 := fun A1 σ w τ => match A1 with
  | [.int t] => σ = τ ∧ ∃ b : Int32, w = some (.int b) ∧ ((b = 1 ∧ aI σ 3 t.toNatClampNeg = 5 ∧ (aI σ 6 t.toNatClampNeg = 61 ∨ 400 < aI σ 6 t.toNatClampNeg)) ∨ (b = 0 ∧ ¬ (aI σ 3 t.toNatClampNeg = 5 ∧ (aI σ 6 t.toNatClampNeg = 61 ∨ 400 < aI σ 6 t.toNatClampNeg))))
  | _ => False
def Qw_isSetAt : UQ1 := fun A1 σ w τ => Pv_isSetAt A1 σ → Qv_isSetAt A1 σ w τ
set_option maxRecDepth 100000 in
set_option maxHeartbeats 4000000 in
theorem v_isSetAt : UMet 24 (Pv_isSetAt) (Qv_isSetAt) := by
  refine UMet.by BisSetAt [] rfl uc0 ?_
  intro A1 σ hP K hB hW
  unfold Pv_isSetAt at hP
  split at hP
  next t =>
    intro n0
    refine hB _ _ _ _ _ (fun m1 hm1 => ?_)
    dsimp only [ugo, uwp, ust, uct, rfd, BisSetAt, Nat.beq, lv_args, rlk, rs1, rs2, rdl, rky, rcd, rno, rsw, Value.category, List.filter, List.take, List.drop, List.reverse, List.reverseAux, List.cons_append, List.nil_append, Option.toList, Int.toNat, Int.reduceToNat, if_pos, if_neg, reduceIte, ↓reduceIte, Nat.reduceAdd, Nat.reduceEqDiff, Nat.reduceBEq, beq_self_eq_true, Bool.not_true, Bool.not_false, Bool.and_true, Bool.and_false, Bool.true_and, Bool.false_and, gI_sI, gI_sL, gI_sA, gI_sM, gL_sI, gL_sL, gL_sA, gL_sM, aI_sI, aI_sL, aI_sA, aI_sM, aL_sI, aL_sL, aL_sA, aL_sM, BisSetAt_0, BisSetAt_10, BisSetAt_21, BisSetAt_33, BisSetAt_37, BisSetAt_38, oi_0, oi_1, oi_400, oi_5, oi_61]; try dsimp only
    intro p2
    refine ⟨fun h3 => ?_, fun h3 => ?_⟩
    · refine hB _ _ _ _ _ (fun m4 hm4 => ?_)
      dsimp only [ugo, uwp, ust, uct, rfd, BisSetAt, Nat.beq, lv_args, rlk, rs1, rs2, rdl, rky, rcd, rno, rsw, Value.category, List.filter, List.take, List.drop, List.reverse, List.reverseAux, List.cons_append, List.nil_append, Option.toList, Int.toNat, Int.reduceToNat, if_pos, if_neg, reduceIte, ↓reduceIte, Nat.reduceAdd, Nat.reduceEqDiff, Nat.reduceBEq, beq_self_eq_true, Bool.not_true, Bool.not_false, Bool.and_true, Bool.and_false, Bool.true_and, Bool.false_and, gI_sI, gI_sL, gI_sA, gI_sM, gL_sI, gL_sL, gL_sA, gL_sM, aI_sI, aI_sL, aI_sA, aI_sM, aL_sI, aL_sL, aL_sA, aL_sM, BisSetAt_0, BisSetAt_10, BisSetAt_21, BisSetAt_33, BisSetAt_37, BisSetAt_38, oi_0, oi_1, oi_400, oi_5, oi_61]; try dsimp only
      refine hB _ _ _ _ _ (fun m5 hm5 => ?_)
      dsimp only [ugo, uwp, ust, uct, rfd, BisSetAt, Nat.beq, lv_args, rlk, rs1, rs2, rdl, rky, rcd, rno, rsw, Value.category, List.filter, List.take, List.drop, List.reverse, List.reverseAux, List.cons_append, List.nil_append, Option.toList, Int.toNat, Int.reduceToNat, if_pos, if_neg, reduceIte, ↓reduceIte, Nat.reduceAdd, Nat.reduceEqDiff, Nat.reduceBEq, beq_self_eq_true, Bool.not_true, Bool.not_false, Bool.and_true, Bool.and_false, Bool.true_and, Bool.false_and, gI_sI, gI_sL, gI_sA, gI_sM, gL_sI, gL_sL, gL_sA, gL_sM, aI_sI, aI_sL, aI_sA, aI_sM, aL_sI, aL_sL, aL_sA, aL_sM, BisSetAt_0, BisSetAt_10, BisSetAt_21, BisSetAt_33, BisSetAt_37, BisSetAt_38, oi_0, oi_1, oi_400, oi_5, oi_61]; try dsimp only
      unfold Qv_isSetAt
      try dsimp only
      exact ⟨rfl, 0, rfl, Or.inr ⟨rfl, fun q => by obtain ⟨q1, q2⟩ := q; lia⟩⟩
    · refine hB _ _ _ _ _ (fun m6 hm6 => ?_)
      dsimp only [ugo, uwp, ust, uct, rfd, BisSetAt, Nat.beq, lv_args, rlk, rs1, rs2, rdl, rky, rcd, rno, rsw, Value.category, List.filter, List.take, List.drop, List.reverse, List.reverseAux, List.cons_append, List.nil_append, Option.toList, Int.toNat, Int.reduceToNat, if_pos, if_neg, reduceIte, ↓reduceIte, Nat.reduceAdd, Nat.reduceEqDiff, Nat.reduceBEq, beq_self_eq_true, Bool.not_true, Bool.not_false, Bool.and_true, Bool.and_false, Bool.true_and, Bool.false_and, gI_sI, gI_sL, gI_sA, gI_sM, gL_sI, gL_sL, gL_sA, gL_sM, aI_sI, aI_sL, aI_sA, aI_sM, aL_sI, aL_sL, aL_sA, aL_sM, BisSetAt_0, BisSetAt_10, BisSetAt_21, BisSetAt_33, BisSetAt_37, BisSetAt_38, oi_0, oi_1, oi_400, oi_5, oi_61]; try dsimp only
      intro p7
      refine ⟨fun h8 => ?_, fun h8 => ?_⟩
      · refine hB _ _ _ _ _ (fun m9 hm9 => ?_)
        dsimp only [ugo, uwp, ust, uct, rfd, BisSetAt, Nat.beq, lv_args, rlk, rs1, rs2, rdl, rky, rcd, rno, rsw, Value.category, List.filter, List.take, List.drop, List.reverse, List.reverseAux, List.cons_append, List.nil_append, Option.toList, Int.toNat, Int.reduceToNat, if_pos, if_neg, reduceIte, ↓reduceIte, Nat.reduceAdd, Nat.reduceEqDiff, Nat.reduceBEq, beq_self_eq_true, Bool.not_true, Bool.not_false, Bool.and_true, Bool.and_false, Bool.true_and, Bool.false_and, gI_sI, gI_sL, gI_sA, gI_sM, gL_sI, gL_sL, gL_sA, gL_sM, aI_sI, aI_sL, aI_sA, aI_sM, aL_sI, aL_sL, aL_sA, aL_sM, BisSetAt_0, BisSetAt_10, BisSetAt_21, BisSetAt_33, BisSetAt_37, BisSetAt_38, oi_0, oi_1, oi_400, oi_5, oi_61]; try dsimp only
        refine hB _ _ _ _ _ (fun m10 hm10 => ?_)
        dsimp only [ugo, uwp, ust, uct, rfd, BisSetAt, Nat.beq, lv_args, rlk, rs1, rs2, rdl, rky, rcd, rno, rsw, Value.category, List.filter, List.take, List.drop, List.reverse, List.reverseAux, List.cons_append, List.nil_append, Option.toList, Int.toNat, Int.reduceToNat, if_pos, if_neg, reduceIte, ↓reduceIte, Nat.reduceAdd, Nat.reduceEqDiff, Nat.reduceBEq, beq_self_eq_true, Bool.not_true, Bool.not_false, Bool.and_true, Bool.and_false, Bool.true_and, Bool.false_and, gI_sI, gI_sL, gI_sA, gI_sM, gL_sI, gL_sL, gL_sA, gL_sM, aI_sI, aI_sL, aI_sA, aI_sM, aL_sI, aL_sL, aL_sA, aL_sM, BisSetAt_0, BisSetAt_10, BisSetAt_21, BisSetAt_33, BisSetAt_37, BisSetAt_38, oi_0, oi_1, oi_400, oi_5, oi_61]; try dsimp only
        unfold Qv_isSetAt
        try dsimp only
        exact ⟨rfl, 1, rfl, Or.inl ⟨rfl, by lia, by lia⟩⟩
      · refine hB _ _ _ _ _ (fun m11 hm11 => ?_)
        dsimp only [ugo, uwp, ust, uct, rfd, BisSetAt, Nat.beq, lv_args, rlk, rs1, rs2, rdl, rky, rcd, rno, rsw, Value.category, List.filter, List.take, List.drop, List.reverse, List.reverseAux, List.cons_append, List.nil_append, Option.toList, Int.toNat, Int.reduceToNat, if_pos, if_neg, reduceIte, ↓reduceIte, Nat.reduceAdd, Nat.reduceEqDiff, Nat.reduceBEq, beq_self_eq_true, Bool.not_true, Bool.not_false, Bool.and_true, Bool.and_false, Bool.true_and, Bool.false_and, gI_sI, gI_sL, gI_sA, gI_sM, gL_sI, gL_sL, gL_sA, gL_sM, aI_sI, aI_sL, aI_sA, aI_sM, aL_sI, aL_sL, aL_sA, aL_sM, BisSetAt_0, BisSetAt_10, BisSetAt_21, BisSetAt_33, BisSetAt_37, BisSetAt_38, oi_0, oi_1, oi_400, oi_5, oi_61]; try dsimp only
        intro p12
        refine ⟨fun h13 => ?_, fun h13 => ?_⟩
        · refine hB _ _ _ _ _ (fun m14 hm14 => ?_)
          dsimp only [ugo, uwp, ust, uct, rfd, BisSetAt, Nat.beq, lv_args, rlk, rs1, rs2, rdl, rky, rcd, rno, rsw, Value.category, List.filter, List.take, List.drop, List.reverse, List.reverseAux, List.cons_append, List.nil_append, Option.toList, Int.toNat, Int.reduceToNat, if_pos, if_neg, reduceIte, ↓reduceIte, Nat.reduceAdd, Nat.reduceEqDiff, Nat.reduceBEq, beq_self_eq_true, Bool.not_true, Bool.not_false, Bool.and_true, Bool.and_false, Bool.true_and, Bool.false_and, gI_sI, gI_sL, gI_sA, gI_sM, gL_sI, gL_sL, gL_sA, gL_sM, aI_sI, aI_sL, aI_sA, aI_sM, aL_sI, aL_sL, aL_sA, aL_sM, BisSetAt_0, BisSetAt_10, BisSetAt_21, BisSetAt_33, BisSetAt_37, BisSetAt_38, oi_0, oi_1, oi_400, oi_5, oi_61]; try dsimp only
          refine hB _ _ _ _ _ (fun m15 hm15 => ?_)
          dsimp only [ugo, uwp, ust, uct, rfd, BisSetAt, Nat.beq, lv_args, rlk, rs1, rs2, rdl, rky, rcd, rno, rsw, Value.category, List.filter, List.take, List.drop, List.reverse, List.reverseAux, List.cons_append, List.nil_append, Option.toList, Int.toNat, Int.reduceToNat, if_pos, if_neg, reduceIte, ↓reduceIte, Nat.reduceAdd, Nat.reduceEqDiff, Nat.reduceBEq, beq_self_eq_true, Bool.not_true, Bool.not_false, Bool.and_true, Bool.and_false, Bool.true_and, Bool.false_and, gI_sI, gI_sL, gI_sA, gI_sM, gL_sI, gL_sL, gL_sA, gL_sM, aI_sI, aI_sL, aI_sA, aI_sM, aL_sI, aL_sL, aL_sA, aL_sM, BisSetAt_0, BisSetAt_10, BisSetAt_21, BisSetAt_33, BisSetAt_37, BisSetAt_38, oi_0, oi_1, oi_400, oi_5, oi_61]; try dsimp only
          unfold Qv_isSetAt
          try dsimp only
          exact ⟨rfl, 0, rfl, Or.inr ⟨rfl, fun q => by obtain ⟨q1, q2⟩ := q; lia⟩⟩
        · refine hB _ _ _ _ _ (fun m16 hm16 => ?_)
          dsimp only [ugo, uwp, ust, uct, rfd, BisSetAt, Nat.beq, lv_args, rlk, rs1, rs2, rdl, rky, rcd, rno, rsw, Value.category, List.filter, List.take, List.drop, List.reverse, List.reverseAux, List.cons_append, List.nil_append, Option.toList, Int.toNat, Int.reduceToNat, if_pos, if_neg, reduceIte, ↓reduceIte, Nat.reduceAdd, Nat.reduceEqDiff, Nat.reduceBEq, beq_self_eq_true, Bool.not_true, Bool.not_false, Bool.and_true, Bool.and_false, Bool.true_and, Bool.false_and, gI_sI, gI_sL, gI_sA, gI_sM, gL_sI, gL_sL, gL_sA, gL_sM, aI_sI, aI_sL, aI_sA, aI_sM, aL_sI, aL_sL, aL_sA, aL_sM, BisSetAt_0, BisSetAt_10, BisSetAt_21, BisSetAt_33, BisSetAt_37, BisSetAt_38, oi_0, oi_1, oi_400, oi_5, oi_61]; try dsimp only
          refine hB _ _ _ _ _ (fun m17 hm17 => ?_)
          dsimp only [ugo, uwp, ust, uct, rfd, BisSetAt, Nat.beq, lv_args, rlk, rs1, rs2, rdl, rky, rcd, rno, rsw, Value.category, List.filter, List.take, List.drop, List.reverse, List.reverseAux, List.cons_append, List.nil_append, Option.toList, Int.toNat, Int.reduceToNat, if_pos, if_neg, reduceIte, ↓reduceIte, Nat.reduceAdd, Nat.reduceEqDiff, Nat.reduceBEq, beq_self_eq_true, Bool.not_true, Bool.not_false, Bool.and_true, Bool.and_false, Bool.true_and, Bool.false_and, gI_sI, gI_sL, gI_sA, gI_sM, gL_sI, gL_sL, gL_sA, gL_sM, aI_sI, aI_sL, aI_sA, aI_sM, aL_sI, aL_sL, aL_sA, aL_sM, BisSetAt_0, BisSetAt_10, BisSetAt_21, BisSetAt_33, BisSetAt_37, BisSetAt_38, oi_0, oi_1, oi_400, oi_5, oi_61]; try dsimp only
          unfold Qv_isSetAt
          try dsimp only
          exact ⟨rfl, 1, rfl, Or.inl ⟨rfl, by lia, by lia⟩⟩
  next => exact hP.elim
theorem w_isSetAt : UMet 24 (fun _ _ => True) Qw_isSetAt := fun A1 σ _ w τ h hP => v_isSetAt A1 σ hP w τ h
