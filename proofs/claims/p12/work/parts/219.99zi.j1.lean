theorem vin {j : Int32} {n : Nat} {m : Int32} (h : vp_in j n) (hm : m.toNatClampNeg = n) (h0 : 0 ≤ m) : 0 ≤ j ∧ j < m := by
  refine ⟨vp_in0 h, Int32.not_le.mp (fun q => h (Or.inr ?_))⟩
  have := nT_le h0 q
  rw [← hm]
  exact this
def Pu_wrong : UP1 := fun A1 σ => match A1 with
  | [.int what, .int token] => True
  | _ => False
def Qu_wrong : UQ1 := fun A1 σ w τ => match A1 with
  | [.int what, .int token] => w = some (.int 0)
  | _ => False
set_option maxRecDepth 100000 in
set_option maxHeartbeats 4000000 in
theorem u_wrong : UMet 12 Pu_wrong Qu_wrong := by
  refine UMet.by Bwrong [] rfl uc0 ?_
  intro A1 σ hP K hB hW
  unfold Pu_wrong at hP
  split at hP
  next what token =>
    intro n0
    refine hB _ _ _ _ _ (fun m1 hm1 => ?_)
    dsimp only [ugo, uwp, ust, uct, rfd, Bwrong, Nat.beq, lv_args, rlk, rs1, rs2, rdl, rky, rcd, rno, rsw, Value.category, List.filter, List.take, List.drop, List.reverse, List.reverseAux, List.cons_append, List.nil_append, Option.toList, Int.toNat, Int.reduceToNat, if_pos, if_neg, reduceIte, ↓reduceIte, Nat.reduceAdd, Nat.reduceEqDiff, Nat.reduceBEq, beq_self_eq_true, Bool.not_true, Bool.not_false, Bool.and_true, Bool.and_false, Bool.true_and, Bool.false_and, gI_sI, gI_sL, gI_sA, gI_sM, gL_sI, gL_sL, gL_sA, gL_sM, aI_sI, aI_sL, aI_sA, aI_sM, aL_sI, aL_sL, aL_sA, aL_sM, Bwrong_0, Bwrong_7, Bwrong_22, oi_0]; try dsimp only
    refine ⟨fun h2 => ?_, fun h2 => ?_⟩
    · refine hB _ _ _ _ _ (fun m3 hm3 => ?_)
      dsimp only [ugo, uwp, ust, uct, rfd, Bwrong, Nat.beq, lv_args, rlk, rs1, rs2, rdl, rky, rcd, rno, rsw, Value.category, List.filter, List.take, List.drop, List.reverse, List.reverseAux, List.cons_append, List.nil_append, Option.toList, Int.toNat, Int.reduceToNat, if_pos, if_neg, reduceIte, ↓reduceIte, Nat.reduceAdd, Nat.reduceEqDiff, Nat.reduceBEq, beq_self_eq_true, Bool.not_true, Bool.not_false, Bool.and_true, Bool.and_false, Bool.true_and, Bool.false_and, gI_sI, gI_sL, gI_sA, gI_sM, gL_sI, gL_sL, gL_sA, gL_sM, aI_sI, aI_sL, aI_sA, aI_sM, aL_sI, aL_sL, aL_sA, aL_sM, Bwrong_0, Bwrong_7, Bwrong_22, oi_0]; try dsimp only
      unfold Qu_wrong
      try dsimp only
      all_goals rfl
    · refine hB _ _ _ _ _ (fun m4 hm4 => ?_)
      dsimp only [ugo, uwp, ust, uct, rfd, Bwrong, Nat.beq, lv_args, rlk, rs1, rs2, rdl, rky, rcd, rno, rsw, Value.category, List.filter, List.take, List.drop, List.reverse, List.reverseAux, List.cons_append, List.nil_append, Option.toList, Int.toNat, Int.reduceToNat, if_pos, if_neg, reduceIte, ↓reduceIte, Nat.reduceAdd, Nat.reduceEqDiff, Nat.reduceBEq, beq_self_eq_true, Bool.not_true, Bool.not_false, Bool.and_true, Bool.and_false, Bool.true_and, Bool.false_and, gI_sI, gI_sL, gI_sA, gI_sM, gL_sI, gL_sL, gL_sA, gL_sM, aI_sI, aI_sL, aI_sA, aI_sM, aL_sI, aL_sL, aL_sA, aL_sM, Bwrong_0, Bwrong_7, Bwrong_22, oi_0]; try dsimp only
      intro p5
      refine hB _ _ _ _ _ (fun m6 hm6 => ?_)
      dsimp only [ugo, uwp, ust, uct, rfd, Bwrong, Nat.beq, lv_args, rlk, rs1, rs2, rdl, rky, rcd, rno, rsw, Value.category, List.filter, List.take, List.drop, List.reverse, List.reverseAux, List.cons_append, List.nil_append, Option.toList, Int.toNat, Int.reduceToNat, if_pos, if_neg, reduceIte, ↓reduceIte, Nat.reduceAdd, Nat.reduceEqDiff, Nat.reduceBEq, beq_self_eq_true, Bool.not_true, Bool.not_false, Bool.and_true, Bool.and_false, Bool.true_and, Bool.false_and, gI_sI, gI_sL, gI_sA, gI_sM, gL_sI, gL_sL, gL_sA, gL_sM, aI_sI, aI_sL, aI_sA, aI_sM, aL_sI, aL_sL, aL_sA, aL_sM, Bwrong_0, Bwrong_7, Bwrong_22, oi_0]; try dsimp only
      unfold Qu_wrong
      try dsimp only
      all_goals rfl
  next => exact hP.elim
def Pu_cant : UP1 := fun A1 σ => match A1 with
  | [] => True
  | _ => False
def Qu_cant : UQ1 := fun A1 σ w τ => match A1 with
  | [] => w = some (.int 0)
  | _ => False
set_option maxRecDepth 100000 in
set_option maxHeartbeats 4000000 in
theorem u_cant : UMet 13 Pu_cant Qu_cant := by
  refine UMet.by Bcant [(12, Pu_wrong, Qu_wrong)] rfl (ucc u_wrong uc0) ?_
  intro A1 σ hP K hB hW
  unfold Pu_cant at hP
  split at hP
  next =>
    intro n0
    refine hB _ _ _ _ _ (fun m1 hm1 => ?_)
    dsimp only [ugo, uwp, ust, uct, rfd, Bcant, Nat.beq, lv_args, rlk, rs1, rs2, rdl, rky, rcd, rno, rsw, Value.category, List.filter, List.take, List.drop, List.reverse, List.reverseAux, List.cons_append, List.nil_append, Option.toList, Int.toNat, Int.reduceToNat, if_pos, if_neg, reduceIte, ↓reduceIte, Nat.reduceAdd, Nat.reduceEqDiff, Nat.reduceBEq, beq_self_eq_true, Bool.not_true, Bool.not_false, Bool.and_true, Bool.and_false, Bool.true_and, Bool.false_and, gI_sI, gI_sL, gI_sA, gI_sM, gL_sI, gL_sL, gL_sA, gL_sM, aI_sI, aI_sL, aI_sA, aI_sM, aL_sI, aL_sL, aL_sA, aL_sM, Bcant_0, Bcant_15, Bcant_19, Bcant_20, oi_1, oi_2, oi_6, Pu_wrong]; try dsimp only
    intro p2
    refine ⟨fun h3 => ?_, fun h3 => ?_⟩
    · refine hB _ _ _ _ _ (fun m4 hm4 => ?_)
      dsimp only [ugo, uwp, ust, uct, rfd, Bcant, Nat.beq, lv_args, rlk, rs1, rs2, rdl, rky, rcd, rno, rsw, Value.category, List.filter, List.take, List.drop, List.reverse, List.reverseAux, List.cons_append, List.nil_append, Option.toList, Int.toNat, Int.reduceToNat, if_pos, if_neg, reduceIte, ↓reduceIte, Nat.reduceAdd, Nat.reduceEqDiff, Nat.reduceBEq, beq_self_eq_true, Bool.not_true, Bool.not_false, Bool.and_true, Bool.and_false, Bool.true_and, Bool.false_and, gI_sI, gI_sL, gI_sA, gI_sM, gL_sI, gL_sL, gL_sA, gL_sM, aI_sI, aI_sL, aI_sA, aI_sM, aL_sI, aL_sL, aL_sA, aL_sM, Bcant_0, Bcant_15, Bcant_19, Bcant_20, oi_1, oi_2, oi_6, Pu_wrong]; try dsimp only
      refine hB _ _ _ _ _ (fun m5 hm5 => ?_)
      dsimp only [ugo, uwp, ust, uct, rfd, Bcant, Nat.beq, lv_args, rlk, rs1, rs2, rdl, rky, rcd, rno, rsw, Value.category, List.filter, List.take, List.drop, List.reverse, List.reverseAux, List.cons_append, List.nil_append, Option.toList, Int.toNat, Int.reduceToNat, if_pos, if_neg, reduceIte, ↓reduceIte, Nat.reduceAdd, Nat.reduceEqDiff, Nat.reduceBEq, beq_self_eq_true, Bool.not_true, Bool.not_false, Bool.and_true, Bool.and_false, Bool.true_and, Bool.false_and, gI_sI, gI_sL, gI_sA, gI_sM, gL_sI, gL_sL, gL_sA, gL_sM, aI_sI, aI_sL, aI_sA, aI_sM, aL_sI, aL_sL, aL_sA, aL_sM, Bcant_0, Bcant_15, Bcant_19, Bcant_20, oi_1, oi_2, oi_6, Pu_wrong]; try dsimp only
      refine ⟨trivial, fun w6 τ6 hq6 => ?_⟩
      obtain rfl := hq6
      dsimp only [Option.toList, List.cons_append, List.nil_append, Nat.beq, gI_sI, gI_sL, gI_sA, gI_sM, gL_sI, gL_sL, gL_sA, gL_sM, aI_sI, aI_sL, aI_sA, aI_sM, aL_sI, aL_sL, aL_sA, aL_sM]
      unfold Qu_cant
      try dsimp only
      all_goals rfl
    · refine hB _ _ _ _ _ (fun m7 hm7 => ?_)
      dsimp only [ugo, uwp, ust, uct, rfd, Bcant, Nat.beq, lv_args, rlk, rs1, rs2, rdl, rky, rcd, rno, rsw, Value.category, List.filter, List.take, List.drop, List.reverse, List.reverseAux, List.cons_append, List.nil_append, Option.toList, Int.toNat, Int.reduceToNat, if_pos, if_neg, reduceIte, ↓reduceIte, Nat.reduceAdd, Nat.reduceEqDiff, Nat.reduceBEq, beq_self_eq_true, Bool.not_true, Bool.not_false, Bool.and_true, Bool.and_false, Bool.true_and, Bool.false_and, gI_sI, gI_sL, gI_sA, gI_sM, gL_sI, gL_sL, gL_sA, gL_sM, aI_sI, aI_sL, aI_sA, aI_sM, aL_sI, aL_sL, aL_sA, aL_sM, Bcant_0, Bcant_15, Bcant_19, Bcant_20, oi_1, oi_2, oi_6, Pu_wrong]; try dsimp only
      refine hB _ _ _ _ _ (fun m8 hm8 => ?_)
      dsimp only [ugo, uwp, ust, uct, rfd, Bcant, Nat.beq, lv_args, rlk, rs1, rs2, rdl, rky, rcd, rno, rsw, Value.category, List.filter, List.take, List.drop, List.reverse, List.reverseAux, List.cons_append, List.nil_append, Option.toList, Int.toNat, Int.reduceToNat, if_pos, if_neg, reduceIte, ↓reduceIte, Nat.reduceAdd, Nat.reduceEqDiff, Nat.reduceBEq, beq_self_eq_true, Bool.not_true, Bool.not_false, Bool.and_true, Bool.and_false, Bool.true_and, Bool.false_and, gI_sI, gI_sL, gI_sA, gI_sM, gL_sI, gL_sL, gL_sA, gL_sM, aI_sI, aI_sL, aI_sA, aI_sM, aL_sI, aL_sL, aL_sA, aL_sM, Bcant_0, Bcant_15, Bcant_19, Bcant_20, oi_1, oi_2, oi_6, Pu_wrong]; try dsimp only
      refine ⟨trivial, fun w9 τ9 hq9 => ?_⟩
      obtain rfl := hq9
      dsimp only [Option.toList, List.cons_append, List.nil_append, Nat.beq, gI_sI, gI_sL, gI_sA, gI_sM, gL_sI, gL_sL, gL_sA, gL_sM, aI_sI, aI_sL, aI_sA, aI_sM, aL_sI, aL_sL, aL_sA, aL_sM]
      unfold Qu_cant
      try dsimp only
      all_goals rfl
  next => exact hP.elim
def Pu_emit : UP1 := fun A1 σ => match A1 with
  | [.int op, .int a, .int token] => True
  | _ => False
def Qu_emit : UQ1 := fun A1 σ w τ => match A1 with
  | [.int op, .int a, .int token] => w = some (.int (gI σ 18)) ∧ Em σ op a τ
  | _ => False
set_option maxRecDepth 100000 in
set_option maxHeartbeats 4000000 in
theorem u_emit : UMet 20 Pu_emit Qu_emit := by
  refine UMet.by Bemit [] rfl uc0 ?_
  intro A1 σ hP K hB hW
  unfold Pu_emit at hP
  split at hP
  next op a token =>
    intro n0
    refine hB _ _ _ _ _ (fun m1 hm1 => ?_)
    dsimp only [ugo, uwp, ust, uct, rfd, Bemit, Nat.beq, lv_args, rlk, rs1, rs2, rdl, rky, rcd, rno, rsw, Value.category, List.filter, List.take, List.drop, List.reverse, List.reverseAux, List.cons_append, List.nil_append, Option.toList, Int.toNat, Int.reduceToNat, if_pos, if_neg, reduceIte, ↓reduceIte, Nat.reduceAdd, Nat.reduceEqDiff, Nat.reduceBEq, beq_self_eq_true, Bool.not_true, Bool.not_false, Bool.and_true, Bool.and_false, Bool.true_and, Bool.false_and, gI_sI, gI_sL, gI_sA, gI_sM, gL_sI, gL_sL, gL_sA, gL_sM, aI_sI, aI_sL, aI_sA, aI_sM, aL_sI, aL_sL, aL_sA, aL_sM, Bemit_0, oi_0, oi_1]; try dsimp only
    intro p2
    intro p3
    intro p4
    intro p5
    intro p6
    intro p7
    unfold Qu_emit
    try dsimp only
    obtain ⟨b1, b2⟩ : 0 ≤ gI σ 18 ∧ gI σ 18 < 4000 := vin (by assumption) (by decide) (by decide)
    exact ⟨rfl, fun k hk => (by show gI (sI σ 18 _) k = _; rw [gI_sI, nb_ne hk]), rfl, rfl, rfl, fun k hk => (aI_ne (by omega)).trans ((aI_ne (by omega)).trans ((aI_ne (by omega)).trans ((aI_ne (by omega)).trans ((aI_ne (by omega)).trans ((aI_ne (by omega)).trans rfl))))), b1, b2⟩
  next => exact hP.elim
def Pu_emitExp : UP1 := fun A1 σ => match A1 with
  | [.int op, .int a, .int token, .int first, .int last] => True
  | _ => False
def Qu_emitExp : UQ1 := fun A1 σ w τ => match A1 with
  | [.int op, .int a, .int token, .int first, .int last] => w = some (.int (gI σ 18)) ∧ Em σ op a τ
  | _ => False
set_option maxRecDepth 100000 in
set_option maxHeartbeats 4000000 in
theorem u_emitExp : UMet 21 Pu_emitExp Qu_emitExp := by
  refine UMet.by BemitExp [(20, Pu_emit, Qu_emit)] rfl (ucc u_emit uc0) ?_
  intro A1 σ hP K hB hW
  unfold Pu_emitExp at hP
  split at hP
  next op a token first last =>
    intro n0
    refine hB _ _ _ _ _ (fun m1 hm1 => ?_)
    dsimp only [ugo, uwp, ust, uct, rfd, BemitExp, Nat.beq, lv_args, rlk, rs1, rs2, rdl, rky, rcd, rno, rsw, Value.category, List.filter, List.take, List.drop, List.reverse, List.reverseAux, List.cons_append, List.nil_append, Option.toList, Int.toNat, Int.reduceToNat, if_pos, if_neg, reduceIte, ↓reduceIte, Nat.reduceAdd, Nat.reduceEqDiff, Nat.reduceBEq, beq_self_eq_true, Bool.not_true, Bool.not_false, Bool.and_true, Bool.and_false, Bool.true_and, Bool.false_and, gI_sI, gI_sL, gI_sA, gI_sM, gL_sI, gL_sL, gL_sA, gL_sM, aI_sI, aI_sL, aI_sA, aI_sM, aL_sI, aL_sL, aL_sA, aL_sM, BemitExp_0, Pu_emit]; try dsimp only
    refine ⟨trivial, fun w2 τ2 hq2 => ?_⟩
    obtain ⟨rfl, hE2⟩ := hq2
    dsimp only [Option.toList, List.cons_append, List.nil_append, Nat.beq, gI_sI, gI_sL, gI_sA, gI_sM, gL_sI, gL_sL, gL_sA, gL_sM, aI_sI, aI_sL, aI_sA, aI_sM, aL_sI, aL_sL, aL_sA, aL_sM]
    intro p3
    intro p4
    unfold Qu_emitExp
    try dsimp only
    exact ⟨rfl, hE2.1, hE2.2.1, hE2.2.2.1, hE2.2.2.2.1, fun k hk => (aI_ne (by omega)).trans ((aI_ne (by omega)).trans (hE2.2.2.2.2.1 k hk)), hE2.2.2.2.2.2⟩
  next => exact hP.elim
def Pu_push : UP1 := fun A1 σ => match A1 with
  | [.int sort, .int sign, .int token] => True
  | _ => False
def Qu_push : UQ1 := fun A1 σ w τ => match A1 with
  | [.int sort, .int sign, .int token] => w = some (.int 1) ∧ Pu σ sort sign token τ
  | _ => False
set_option maxRecDepth 100000 in
set_option maxHeartbeats 4000000 in
theorem u_push : UMet 25 Pu_push Qu_push := by
  refine UMet.by Bpush [] rfl uc0 ?_
  intro A1 σ hP K hB hW
  unfold Pu_push at hP
  split at hP
  next sort sign token =>
    intro n0
    refine hB _ _ _ _ _ (fun m1 hm1 => ?_)
    dsimp only [ugo, uwp, ust, uct, rfd, Bpush, Nat.beq, lv_args, rlk, rs1, rs2, rdl, rky, rcd, rno, rsw, Value.category, List.filter, List.take, List.drop, List.reverse, List.reverseAux, List.cons_append, List.nil_append, Option.toList, Int.toNat, Int.reduceToNat, if_pos, if_neg, reduceIte, ↓reduceIte, Nat.reduceAdd, Nat.reduceEqDiff, Nat.reduceBEq, beq_self_eq_true, Bool.not_true, Bool.not_false, Bool.and_true, Bool.and_false, Bool.true_and, Bool.false_and, gI_sI, gI_sL, gI_sA, gI_sM, gL_sI, gL_sL, gL_sA, gL_sM, aI_sI, aI_sL, aI_sA, aI_sM, aL_sI, aL_sL, aL_sA, aL_sM, Bpush_0, oi_0, oi_1]; try dsimp only
    intro p2
    intro p3
    intro p4
    intro p5
    unfold Qu_push
    try dsimp only
    obtain ⟨b1, b2⟩ : 0 ≤ gI σ 29 ∧ gI σ 29 < 600 := vin (by assumption) (by decide) (by decide)
    exact ⟨rfl, fun k hk => (by show gI (sI _ 29 _) k = _; rw [gI_sI, nb_ne hk]; rfl), rfl, ⟨rfl, rfl, rfl⟩, fun k hk => (aI_ne (by omega)).trans ((aI_ne (by omega)).trans ((aI_ne (by omega)).trans ((aI_ne (by omega)).trans rfl))), b1, b2⟩
  next => exact hP.elim
def Pu_whole : UP1 := fun A1 σ => match A1 with
  | [.int first] => True
  | _ => False
def Qu_whole : UQ1 := fun A1 σ w τ => match A1 with
  | [.int first] => w = none ∧ ∃ f v, τ = sI (sA σ 30 f) 31 v
  | _ => False
set_option maxRecDepth 100000 in
set_option maxHeartbeats 4000000 in
theorem u_whole : UMet 26 Pu_whole Qu_whole := by
  refine UMet.by Bwhole [] rfl uc0 ?_
  intro A1 σ hP K hB hW
  unfold Pu_whole at hP
  split at hP
  next first =>
    intro n0
    refine hB _ _ _ _ _ (fun m1 hm1 => ?_)
    dsimp only [ugo, uwp, ust, uct, rfd, Bwhole, Nat.beq, lv_args, rlk, rs1, rs2, rdl, rky, rcd, rno, rsw, Value.category, List.filter, List.take, List.drop, List.reverse, List.reverseAux, List.cons_append, List.nil_append, Option.toList, Int.toNat, Int.reduceToNat, if_pos, if_neg, reduceIte, ↓reduceIte, Nat.reduceAdd, Nat.reduceEqDiff, Nat.reduceBEq, beq_self_eq_true, Bool.not_true, Bool.not_false, Bool.and_true, Bool.and_false, Bool.true_and, Bool.false_and, gI_sI, gI_sL, gI_sA, gI_sM, gL_sI, gL_sL, gL_sA, gL_sM, aI_sI, aI_sL, aI_sA, aI_sM, aL_sI, aL_sL, aL_sA, aL_sM, Bwhole_0, oi_1]; try dsimp only
    intro p2
    unfold Qu_whole
    try dsimp only
    exact ⟨rfl, _, _, rfl⟩
  next => exact hP.elim
def Pu_wait : UP1 := fun A1 σ => match A1 with
  | [.int begins] => True
  | _ => False
def Qu_wait : UQ1 := fun A1 σ w τ => match A1 with
  | [.int begins] => w = some (.int 1) ∧ τ = sI (sI σ 34 1) 35 begins
  | _ => False
set_option maxRecDepth 100000 in
set_option maxHeartbeats 4000000 in
theorem u_wait : UMet 28 Pu_wait Qu_wait := by
  refine UMet.by Bwait [] rfl uc0 ?_
  intro A1 σ hP K hB hW
  unfold Pu_wait at hP
  split at hP
  next begins =>
    intro n0
    refine hB _ _ _ _ _ (fun m1 hm1 => ?_)
    dsimp only [ugo, uwp, ust, uct, rfd, Bwait, Nat.beq, lv_args, rlk, rs1, rs2, rdl, rky, rcd, rno, rsw, Value.category, List.filter, List.take, List.drop, List.reverse, List.reverseAux, List.cons_append, List.nil_append, Option.toList, Int.toNat, Int.reduceToNat, if_pos, if_neg, reduceIte, ↓reduceIte, Nat.reduceAdd, Nat.reduceEqDiff, Nat.reduceBEq, beq_self_eq_true, Bool.not_true, Bool.not_false, Bool.and_true, Bool.and_false, Bool.true_and, Bool.false_and, gI_sI, gI_sL, gI_sA, gI_sM, gL_sI, gL_sL, gL_sA, gL_sM, aI_sI, aI_sL, aI_sA, aI_sM, aL_sI, aL_sL, aL_sA, aL_sM, Bwait_0, oi_1]; try dsimp only
    unfold Qu_wait
    try dsimp only
    exact ⟨rfl, rfl⟩
  next => exact hP.elim
def Pu_thing : UP1 := fun A1 σ => match A1 with
  | [.int sort, .int token] => True
  | _ => False
def Qu_thing : UQ1 := fun A1 σ w τ => match A1 with
  | [.int sort, .int token] => w = some (.int (gI σ 49)) ∧ Th σ τ
  | _ => False
set_option maxRecDepth 100000 in
set_option maxHeartbeats 4000000 in
theorem u_thing : UMet 35 Pu_thing Qu_thing := by
  refine UMet.by Bthing [] rfl uc0 ?_
  intro A1 σ hP K hB hW
  unfold Pu_thing at hP
  split at hP
  next sort token =>
    intro n0
    refine hB _ _ _ _ _ (fun m1 hm1 => ?_)
    dsimp only [ugo, uwp, ust, uct, rfd, Bthing, Nat.beq, lv_args, rlk, rs1, rs2, rdl, rky, rcd, rno, rsw, Value.category, List.filter, List.take, List.drop, List.reverse, List.reverseAux, List.cons_append, List.nil_append, Option.toList, Int.toNat, Int.reduceToNat, if_pos, if_neg, reduceIte, ↓reduceIte, Nat.reduceAdd, Nat.reduceEqDiff, Nat.reduceBEq, beq_self_eq_true, Bool.not_true, Bool.not_false, Bool.and_true, Bool.and_false, Bool.true_and, Bool.false_and, gI_sI, gI_sL, gI_sA, gI_sM, gL_sI, gL_sL, gL_sA, gL_sM, aI_sI, aI_sL, aI_sA, aI_sM, aL_sI, aL_sL, aL_sA, aL_sM, Bthing_0, oi_1, oi_m2]; try dsimp only
    intro p2
    intro p3
    intro p4
    intro p5
    intro p6
    intro p7
    intro p8
    intro p9
    intro p10
    intro p11
    intro p12
    intro p13
    unfold Qu_thing
    try dsimp only
    obtain ⟨b1, b2⟩ : 0 ≤ gI σ 49 ∧ gI σ 49 < 600 := vin (by assumption) (by decide) (by decide)
    exact ⟨rfl, fun k hk => (by show gI (sI σ 49 _) k = _; rw [gI_sI, nb_ne hk]), rfl, rfl, fun k hk => (aI_ne (by omega)).trans ((aI_ne (by omega)).trans ((aI_ne (by omega)).trans ((aI_ne (by omega)).trans ((aI_ne (by omega)).trans ((aI_ne (by omega)).trans ((aI_ne (by omega)).trans ((aI_ne (by omega)).trans ((aI_ne (by omega)).trans ((aI_ne (by omega)).trans ((aI_ne (by omega)).trans ((aI_ne (by omega)).trans (rfl)))))))))))), b1, b2⟩
  next => exact hP.elim
def Pu_sameName : UP1 := fun A1 σ => match A1 with
  | [.int t, .int u] => True
  | _ => False
def Qu_sameName : UQ1 := fun A1 σ w τ => match A1 with
  | [.int t, .int u] => ∃ r : Int32, w = some (.int r) ∧ σ = τ
  | _ => False
set_option maxRecDepth 100000 in
set_option maxHeartbeats 4000000 in
theorem u_sameName : UMet 63 Pu_sameName Qu_sameName := by
  refine UMet.by BsameName [] rfl uc0 ?_
  intro A1 σ hP K hB hW
  unfold Pu_sameName at hP
  split at hP
  next t u =>
    intro n0
    refine hB _ _ _ _ _ (fun m1 hm1 => ?_)
    dsimp only [ugo, uwp, ust, uct, rfd, BsameName, Nat.beq, lv_args, rlk, rs1, rs2, rdl, rky, rcd, rno, rsw, Value.category, List.filter, List.take, List.drop, List.reverse, List.reverseAux, List.cons_append, List.nil_append, Option.toList, Int.toNat, Int.reduceToNat, if_pos, if_neg, reduceIte, ↓reduceIte, Nat.reduceAdd, Nat.reduceEqDiff, Nat.reduceBEq, beq_self_eq_true, Bool.not_true, Bool.not_false, Bool.and_true, Bool.and_false, Bool.true_and, Bool.false_and, gI_sI, gI_sL, gI_sA, gI_sM, gL_sI, gL_sL, gL_sA, gL_sM, aI_sI, aI_sL, aI_sA, aI_sM, aL_sI, aL_sL, aL_sA, aL_sM, BsameName_0, BsameName_16, BsameName_31, BsameName_46, BsameName_50, BsameName_51, oi_0, oi_1]; try dsimp only
    intro p2
    intro p3
    refine ⟨fun h4 => ?_, fun h4 => ?_⟩
    · refine hB _ _ _ _ _ (fun m5 hm5 => ?_)
      dsimp only [ugo, uwp, ust, uct, rfd, BsameName, Nat.beq, lv_args, rlk, rs1, rs2, rdl, rky, rcd, rno, rsw, Value.category, List.filter, List.take, List.drop, List.reverse, List.reverseAux, List.cons_append, List.nil_append, Option.toList, Int.toNat, Int.reduceToNat, if_pos, if_neg, reduceIte, ↓reduceIte, Nat.reduceAdd, Nat.reduceEqDiff, Nat.reduceBEq, beq_self_eq_true, Bool.not_true, Bool.not_false, Bool.and_true, Bool.and_false, Bool.true_and, Bool.false_and, gI_sI, gI_sL, gI_sA, gI_sM, gL_sI, gL_sL, gL_sA, gL_sM, aI_sI, aI_sL, aI_sA, aI_sM, aL_sI, aL_sL, aL_sA, aL_sM, BsameName_0, BsameName_16, BsameName_31, BsameName_46, BsameName_50, BsameName_51, oi_0, oi_1]; try dsimp only
      refine hB _ _ _ _ _ (fun m6 hm6 => ?_)
      dsimp only [ugo, uwp, ust, uct, rfd, BsameName, Nat.beq, lv_args, rlk, rs1, rs2, rdl, rky, rcd, rno, rsw, Value.category, List.filter, List.take, List.drop, List.reverse, List.reverseAux, List.cons_append, List.nil_append, Option.toList, Int.toNat, Int.reduceToNat, if_pos, if_neg, reduceIte, ↓reduceIte, Nat.reduceAdd, Nat.reduceEqDiff, Nat.reduceBEq, beq_self_eq_true, Bool.not_true, Bool.not_false, Bool.and_true, Bool.and_false, Bool.true_and, Bool.false_and, gI_sI, gI_sL, gI_sA, gI_sM, gL_sI, gL_sL, gL_sA, gL_sM, aI_sI, aI_sL, aI_sA, aI_sM, aL_sI, aL_sL, aL_sA, aL_sM, BsameName_0, BsameName_16, BsameName_31, BsameName_46, BsameName_50, BsameName_51, oi_0, oi_1]; try dsimp only
      unfold Qu_sameName
      try dsimp only
      exact ⟨_, rfl, rfl⟩
    · refine hB _ _ _ _ _ (fun m7 hm7 => ?_)
      dsimp only [ugo, uwp, ust, uct, rfd, BsameName, Nat.beq, lv_args, rlk, rs1, rs2, rdl, rky, rcd, rno, rsw, Value.category, List.filter, List.take, List.drop, List.reverse, List.reverseAux, List.cons_append, List.nil_append, Option.toList, Int.toNat, Int.reduceToNat, if_pos, if_neg, reduceIte, ↓reduceIte, Nat.reduceAdd, Nat.reduceEqDiff, Nat.reduceBEq, beq_self_eq_true, Bool.not_true, Bool.not_false, Bool.and_true, Bool.and_false, Bool.true_and, Bool.false_and, gI_sI, gI_sL, gI_sA, gI_sM, gL_sI, gL_sL, gL_sA, gL_sM, aI_sI, aI_sL, aI_sA, aI_sM, aL_sI, aL_sL, aL_sA, aL_sM, BsameName_0, BsameName_16, BsameName_31, BsameName_46, BsameName_50, BsameName_51, oi_0, oi_1]; try dsimp only
      intro p8
      intro p9
      refine ⟨fun h10 => ?_, fun h10 => ?_⟩
      · refine hB _ _ _ _ _ (fun m11 hm11 => ?_)
        dsimp only [ugo, uwp, ust, uct, rfd, BsameName, Nat.beq, lv_args, rlk, rs1, rs2, rdl, rky, rcd, rno, rsw, Value.category, List.filter, List.take, List.drop, List.reverse, List.reverseAux, List.cons_append, List.nil_append, Option.toList, Int.toNat, Int.reduceToNat, if_pos, if_neg, reduceIte, ↓reduceIte, Nat.reduceAdd, Nat.reduceEqDiff, Nat.reduceBEq, beq_self_eq_true, Bool.not_true, Bool.not_false, Bool.and_true, Bool.and_false, Bool.true_and, Bool.false_and, gI_sI, gI_sL, gI_sA, gI_sM, gL_sI, gL_sL, gL_sA, gL_sM, aI_sI, aI_sL, aI_sA, aI_sM, aL_sI, aL_sL, aL_sA, aL_sM, BsameName_0, BsameName_16, BsameName_31, BsameName_46, BsameName_50, BsameName_51, oi_0, oi_1]; try dsimp only
        refine hB _ _ _ _ _ (fun m12 hm12 => ?_)
        dsimp only [ugo, uwp, ust, uct, rfd, BsameName, Nat.beq, lv_args, rlk, rs1, rs2, rdl, rky, rcd, rno, rsw, Value.category, List.filter, List.take, List.drop, List.reverse, List.reverseAux, List.cons_append, List.nil_append, Option.toList, Int.toNat, Int.reduceToNat, if_pos, if_neg, reduceIte, ↓reduceIte, Nat.reduceAdd, Nat.reduceEqDiff, Nat.reduceBEq, beq_self_eq_true, Bool.not_true, Bool.not_false, Bool.and_true, Bool.and_false, Bool.true_and, Bool.false_and, gI_sI, gI_sL, gI_sA, gI_sM, gL_sI, gL_sL, gL_sA, gL_sM, aI_sI, aI_sL, aI_sA, aI_sM, aL_sI, aL_sL, aL_sA, aL_sM, BsameName_0, BsameName_16, BsameName_31, BsameName_46, BsameName_50, BsameName_51, oi_0, oi_1]; try dsimp only
        unfold Qu_sameName
        try dsimp only
        exact ⟨_, rfl, rfl⟩
      · refine hB _ _ _ _ _ (fun m13 hm13 => ?_)
        dsimp only [ugo, uwp, ust, uct, rfd, BsameName, Nat.beq, lv_args, rlk, rs1, rs2, rdl, rky, rcd, rno, rsw, Value.category, List.filter, List.take, List.drop, List.reverse, List.reverseAux, List.cons_append, List.nil_append, Option.toList, Int.toNat, Int.reduceToNat, if_pos, if_neg, reduceIte, ↓reduceIte, Nat.reduceAdd, Nat.reduceEqDiff, Nat.reduceBEq, beq_self_eq_true, Bool.not_true, Bool.not_false, Bool.and_true, Bool.and_false, Bool.true_and, Bool.false_and, gI_sI, gI_sL, gI_sA, gI_sM, gL_sI, gL_sL, gL_sA, gL_sM, aI_sI, aI_sL, aI_sA, aI_sM, aL_sI, aL_sL, aL_sA, aL_sM, BsameName_0, BsameName_16, BsameName_31, BsameName_46, BsameName_50, BsameName_51, oi_0, oi_1]; try dsimp only
        intro p14
        intro p15
        refine ⟨fun h16 => ?_, fun h16 => ?_⟩
        · refine hB _ _ _ _ _ (fun m17 hm17 => ?_)
          dsimp only [ugo, uwp, ust, uct, rfd, BsameName, Nat.beq, lv_args, rlk, rs1, rs2, rdl, rky, rcd, rno, rsw, Value.category, List.filter, List.take, List.drop, List.reverse, List.reverseAux, List.cons_append, List.nil_append, Option.toList, Int.toNat, Int.reduceToNat, if_pos, if_neg, reduceIte, ↓reduceIte, Nat.reduceAdd, Nat.reduceEqDiff, Nat.reduceBEq, beq_self_eq_true, Bool.not_true, Bool.not_false, Bool.and_true, Bool.and_false, Bool.true_and, Bool.false_and, gI_sI, gI_sL, gI_sA, gI_sM, gL_sI, gL_sL, gL_sA, gL_sM, aI_sI, aI_sL, aI_sA, aI_sM, aL_sI, aL_sL, aL_sA, aL_sM, BsameName_0, BsameName_16, BsameName_31, BsameName_46, BsameName_50, BsameName_51, oi_0, oi_1]; try dsimp only
          refine hB _ _ _ _ _ (fun m18 hm18 => ?_)
          dsimp only [ugo, uwp, ust, uct, rfd, BsameName, Nat.beq, lv_args, rlk, rs1, rs2, rdl, rky, rcd, rno, rsw, Value.category, List.filter, List.take, List.drop, List.reverse, List.reverseAux, List.cons_append, List.nil_append, Option.toList, Int.toNat, Int.reduceToNat, if_pos, if_neg, reduceIte, ↓reduceIte, Nat.reduceAdd, Nat.reduceEqDiff, Nat.reduceBEq, beq_self_eq_true, Bool.not_true, Bool.not_false, Bool.and_true, Bool.and_false, Bool.true_and, Bool.false_and, gI_sI, gI_sL, gI_sA, gI_sM, gL_sI, gL_sL, gL_sA, gL_sM, aI_sI, aI_sL, aI_sA, aI_sM, aL_sI, aL_sL, aL_sA, aL_sM, BsameName_0, BsameName_16, BsameName_31, BsameName_46, BsameName_50, BsameName_51, oi_0, oi_1]; try dsimp only
          unfold Qu_sameName
          try dsimp only
          exact ⟨_, rfl, rfl⟩
        · refine hB _ _ _ _ _ (fun m19 hm19 => ?_)
          dsimp only [ugo, uwp, ust, uct, rfd, BsameName, Nat.beq, lv_args, rlk, rs1, rs2, rdl, rky, rcd, rno, rsw, Value.category, List.filter, List.take, List.drop, List.reverse, List.reverseAux, List.cons_append, List.nil_append, Option.toList, Int.toNat, Int.reduceToNat, if_pos, if_neg, reduceIte, ↓reduceIte, Nat.reduceAdd, Nat.reduceEqDiff, Nat.reduceBEq, beq_self_eq_true, Bool.not_true, Bool.not_false, Bool.and_true, Bool.and_false, Bool.true_and, Bool.false_and, gI_sI, gI_sL, gI_sA, gI_sM, gL_sI, gL_sL, gL_sA, gL_sM, aI_sI, aI_sL, aI_sA, aI_sM, aL_sI, aL_sL, aL_sA, aL_sM, BsameName_0, BsameName_16, BsameName_31, BsameName_46, BsameName_50, BsameName_51, oi_0, oi_1]; try dsimp only
          refine hB _ _ _ _ _ (fun m20 hm20 => ?_)
          dsimp only [ugo, uwp, ust, uct, rfd, BsameName, Nat.beq, lv_args, rlk, rs1, rs2, rdl, rky, rcd, rno, rsw, Value.category, List.filter, List.take, List.drop, List.reverse, List.reverseAux, List.cons_append, List.nil_append, Option.toList, Int.toNat, Int.reduceToNat, if_pos, if_neg, reduceIte, ↓reduceIte, Nat.reduceAdd, Nat.reduceEqDiff, Nat.reduceBEq, beq_self_eq_true, Bool.not_true, Bool.not_false, Bool.and_true, Bool.and_false, Bool.true_and, Bool.false_and, gI_sI, gI_sL, gI_sA, gI_sM, gL_sI, gL_sL, gL_sA, gL_sM, aI_sI, aI_sL, aI_sA, aI_sM, aL_sI, aL_sL, aL_sA, aL_sM, BsameName_0, BsameName_16, BsameName_31, BsameName_46, BsameName_50, BsameName_51, oi_0, oi_1]; try dsimp only
          unfold Qu_sameName
          try dsimp only
          exact ⟨_, rfl, rfl⟩
  next => exact hP.elim
def Pj_isSign : JPr := fun A1 A2 σ ρ => match A1, A2 with
  | [.int s], [.int s'] => Rj 0 σ ρ ∧ s = s'
  | _, _ => False
def Qj_isSign : JQr := fun A1 A2 σ ρ w τ w' τ' => match A1, A2 with
  | [.int s], [.int s'] => ∃ b : Int32, w = some (.int b) ∧ w' = some (.int b) ∧ σ = τ ∧ ρ = τ' ∧ (b = 0 ∨ (b = 1 ∧ aI σ 3 (gI σ 14).toNatClampNeg = 5 ∧ aI σ 6 (gI σ 14).toNatClampNeg = s))
  | _, _ => False
set_option maxRecDepth 100000 in
set_option maxHeartbeats 4000000 in
theorem j_isSign : JMet 14 Pj_isSign Qj_isSign := by
  refine JMet.by BisSign [] rfl jc0 ?_
  intro A1 A2 σ ρ hP K hB hW
  unfold Pj_isSign at hP
  split at hP
  next s s' =>
    obtain ⟨hR, rfl⟩ := hP
    intro n0
    refine hB _ _ _ _ _ _ _ _ (fun m1 hm1 => ?_)
    dsimp only [jgo, jwp, jst, jct, rfd, BisSign, Nat.beq, lv_args, rlk, rs1, rs2, rdl, rky, rcd, rno, rsw, Value.category, List.filter, List.take, List.drop, List.reverse, List.reverseAux, List.cons_append, List.nil_append, Option.toList, Int.toNat, Int.reduceToNat, if_pos, if_neg, reduceIte, ↓reduceIte, Nat.reduceAdd, Nat.reduceEqDiff, Nat.reduceBEq, beq_self_eq_true, Bool.not_true, Bool.not_false, Bool.and_true, Bool.and_false, Bool.true_and, Bool.false_and, gI_sI, gI_sL, gI_sA, gI_sM, gL_sI, gL_sL, gL_sA, gL_sM, aI_sI, aI_sL, aI_sA, aI_sM, aL_sI, aL_sL, aL_sA, aL_sM, BisSign_0, BisSign_13, BisSign_26, BisSign_30, BisSign_31, oi_0, oi_1, oi_5]; try dsimp only
    try simp only [hR.e2, hR.e14, hR.e15, hR.e17, hR.e18, hR.e36, hR.e42, hR.e49, hR.a3, hR.a6, hR.a51, hR.a19, hR.hp]
    intro p2 q2
    try simp only [hR.e2, hR.e14, hR.e15, hR.e17, hR.e18, hR.e36, hR.e42, hR.e49, hR.a3, hR.a6, hR.a51, hR.a19, hR.hp]
    refine ⟨fun h3 => ⟨(by exact h3), ?_⟩, fun h3 => ⟨(by exact h3), ?_⟩⟩
    · refine hB _ _ _ _ _ _ _ _ (fun m4 hm4 => ?_)
      dsimp only [jgo, jwp, jst, jct, rfd, BisSign, Nat.beq, lv_args, rlk, rs1, rs2, rdl, rky, rcd, rno, rsw, Value.category, List.filter, List.take, List.drop, List.reverse, List.reverseAux, List.cons_append, List.nil_append, Option.toList, Int.toNat, Int.reduceToNat, if_pos, if_neg, reduceIte, ↓reduceIte, Nat.reduceAdd, Nat.reduceEqDiff, Nat.reduceBEq, beq_self_eq_true, Bool.not_true, Bool.not_false, Bool.and_true, Bool.and_false, Bool.true_and, Bool.false_and, gI_sI, gI_sL, gI_sA, gI_sM, gL_sI, gL_sL, gL_sA, gL_sM, aI_sI, aI_sL, aI_sA, aI_sM, aL_sI, aL_sL, aL_sA, aL_sM, BisSign_0, BisSign_13, BisSign_26, BisSign_30, BisSign_31, oi_0, oi_1, oi_5]; try dsimp only
      try simp only [hR.e2, hR.e14, hR.e15, hR.e17, hR.e18, hR.e36, hR.e42, hR.e49, hR.a3, hR.a6, hR.a51, hR.a19, hR.hp]
      refine hB _ _ _ _ _ _ _ _ (fun m5 hm5 => ?_)
      dsimp only [jgo, jwp, jst, jct, rfd, BisSign, Nat.beq, lv_args, rlk, rs1, rs2, rdl, rky, rcd, rno, rsw, Value.category, List.filter, List.take, List.drop, List.reverse, List.reverseAux, List.cons_append, List.nil_append, Option.toList, Int.toNat, Int.reduceToNat, if_pos, if_neg, reduceIte, ↓reduceIte, Nat.reduceAdd, Nat.reduceEqDiff, Nat.reduceBEq, beq_self_eq_true, Bool.not_true, Bool.not_false, Bool.and_true, Bool.and_false, Bool.true_and, Bool.false_and, gI_sI, gI_sL, gI_sA, gI_sM, gL_sI, gL_sL, gL_sA, gL_sM, aI_sI, aI_sL, aI_sA, aI_sM, aL_sI, aL_sL, aL_sA, aL_sM, BisSign_0, BisSign_13, BisSign_26, BisSign_30, BisSign_31, oi_0, oi_1, oi_5]; try dsimp only
      try simp only [hR.e2, hR.e14, hR.e15, hR.e17, hR.e18, hR.e36, hR.e42, hR.e49, hR.a3, hR.a6, hR.a51, hR.a19, hR.hp]
      unfold Qj_isSign
      try dsimp only
      exact ⟨_, rfl, rfl, rfl, rfl, Or.inl rfl⟩
    · refine hB _ _ _ _ _ _ _ _ (fun m6 hm6 => ?_)
      dsimp only [jgo, jwp, jst, jct, rfd, BisSign, Nat.beq, lv_args, rlk, rs1, rs2, rdl, rky, rcd, rno, rsw, Value.category, List.filter, List.take, List.drop, List.reverse, List.reverseAux, List.cons_append, List.nil_append, Option.toList, Int.toNat, Int.reduceToNat, if_pos, if_neg, reduceIte, ↓reduceIte, Nat.reduceAdd, Nat.reduceEqDiff, Nat.reduceBEq, beq_self_eq_true, Bool.not_true, Bool.not_false, Bool.and_true, Bool.and_false, Bool.true_and, Bool.false_and, gI_sI, gI_sL, gI_sA, gI_sM, gL_sI, gL_sL, gL_sA, gL_sM, aI_sI, aI_sL, aI_sA, aI_sM, aL_sI, aL_sL, aL_sA, aL_sM, BisSign_0, BisSign_13, BisSign_26, BisSign_30, BisSign_31, oi_0, oi_1, oi_5]; try dsimp only
      try simp only [hR.e2, hR.e14, hR.e15, hR.e17, hR.e18, hR.e36, hR.e42, hR.e49, hR.a3, hR.a6, hR.a51, hR.a19, hR.hp]
      intro p7 q7
      try simp only [hR.e2, hR.e14, hR.e15, hR.e17, hR.e18, hR.e36, hR.e42, hR.e49, hR.a3, hR.a6, hR.a51, hR.a19, hR.hp]
      refine ⟨fun h8 => ⟨(by exact h8), ?_⟩, fun h8 => ⟨(by exact h8), ?_⟩⟩
      · refine hB _ _ _ _ _ _ _ _ (fun m9 hm9 => ?_)
        dsimp only [jgo, jwp, jst, jct, rfd, BisSign, Nat.beq, lv_args, rlk, rs1, rs2, rdl, rky, rcd, rno, rsw, Value.category, List.filter, List.take, List.drop, List.reverse, List.reverseAux, List.cons_append, List.nil_append, Option.toList, Int.toNat, Int.reduceToNat, if_pos, if_neg, reduceIte, ↓reduceIte, Nat.reduceAdd, Nat.reduceEqDiff, Nat.reduceBEq, beq_self_eq_true, Bool.not_true, Bool.not_false, Bool.and_true, Bool.and_false, Bool.true_and, Bool.false_and, gI_sI, gI_sL, gI_sA, gI_sM, gL_sI, gL_sL, gL_sA, gL_sM, aI_sI, aI_sL, aI_sA, aI_sM, aL_sI, aL_sL, aL_sA, aL_sM, BisSign_0, BisSign_13, BisSign_26, BisSign_30, BisSign_31, oi_0, oi_1, oi_5]; try dsimp only
        try simp only [hR.e2, hR.e14, hR.e15, hR.e17, hR.e18, hR.e36, hR.e42, hR.e49, hR.a3, hR.a6, hR.a51, hR.a19, hR.hp]
        refine hB _ _ _ _ _ _ _ _ (fun m10 hm10 => ?_)
        dsimp only [jgo, jwp, jst, jct, rfd, BisSign, Nat.beq, lv_args, rlk, rs1, rs2, rdl, rky, rcd, rno, rsw, Value.category, List.filter, List.take, List.drop, List.reverse, List.reverseAux, List.cons_append, List.nil_append, Option.toList, Int.toNat, Int.reduceToNat, if_pos, if_neg, reduceIte, ↓reduceIte, Nat.reduceAdd, Nat.reduceEqDiff, Nat.reduceBEq, beq_self_eq_true, Bool.not_true, Bool.not_false, Bool.and_true, Bool.and_false, Bool.true_and, Bool.false_and, gI_sI, gI_sL, gI_sA, gI_sM, gL_sI, gL_sL, gL_sA, gL_sM, aI_sI, aI_sL, aI_sA, aI_sM, aL_sI, aL_sL, aL_sA, aL_sM, BisSign_0, BisSign_13, BisSign_26, BisSign_30, BisSign_31, oi_0, oi_1, oi_5]; try dsimp only
        try simp only [hR.e2, hR.e14, hR.e15, hR.e17, hR.e18, hR.e36, hR.e42, hR.e49, hR.a3, hR.a6, hR.a51, hR.a19, hR.hp]
        unfold Qj_isSign
        try dsimp only
        exact ⟨_, rfl, rfl, rfl, rfl, Or.inl rfl⟩
      · refine hB _ _ _ _ _ _ _ _ (fun m11 hm11 => ?_)
        dsimp only [jgo, jwp, jst, jct, rfd, BisSign, Nat.beq, lv_args, rlk, rs1, rs2, rdl, rky, rcd, rno, rsw, Value.category, List.filter, List.take, List.drop, List.reverse, List.reverseAux, List.cons_append, List.nil_append, Option.toList, Int.toNat, Int.reduceToNat, if_pos, if_neg, reduceIte, ↓reduceIte, Nat.reduceAdd, Nat.reduceEqDiff, Nat.reduceBEq, beq_self_eq_true, Bool.not_true, Bool.not_false, Bool.and_true, Bool.and_false, Bool.true_and, Bool.false_and, gI_sI, gI_sL, gI_sA, gI_sM, gL_sI, gL_sL, gL_sA, gL_sM, aI_sI, aI_sL, aI_sA, aI_sM, aL_sI, aL_sL, aL_sA, aL_sM, BisSign_0, BisSign_13, BisSign_26, BisSign_30, BisSign_31, oi_0, oi_1, oi_5]; try dsimp only
        try simp only [hR.e2, hR.e14, hR.e15, hR.e17, hR.e18, hR.e36, hR.e42, hR.e49, hR.a3, hR.a6, hR.a51, hR.a19, hR.hp]
        refine hB _ _ _ _ _ _ _ _ (fun m12 hm12 => ?_)
        dsimp only [jgo, jwp, jst, jct, rfd, BisSign, Nat.beq, lv_args, rlk, rs1, rs2, rdl, rky, rcd, rno, rsw, Value.category, List.filter, List.take, List.drop, List.reverse, List.reverseAux, List.cons_append, List.nil_append, Option.toList, Int.toNat, Int.reduceToNat, if_pos, if_neg, reduceIte, ↓reduceIte, Nat.reduceAdd, Nat.reduceEqDiff, Nat.reduceBEq, beq_self_eq_true, Bool.not_true, Bool.not_false, Bool.and_true, Bool.and_false, Bool.true_and, Bool.false_and, gI_sI, gI_sL, gI_sA, gI_sM, gL_sI, gL_sL, gL_sA, gL_sM, aI_sI, aI_sL, aI_sA, aI_sM, aL_sI, aL_sL, aL_sA, aL_sM, BisSign_0, BisSign_13, BisSign_26, BisSign_30, BisSign_31, oi_0, oi_1, oi_5]; try dsimp only
        try simp only [hR.e2, hR.e14, hR.e15, hR.e17, hR.e18, hR.e36, hR.e42, hR.e49, hR.a3, hR.a6, hR.a51, hR.a19, hR.hp]
        unfold Qj_isSign
        try dsimp only
        exact ⟨_, rfl, rfl, rfl, rfl, Or.inr ⟨rfl, by lia, by lia⟩⟩
  next => exact hP.elim
def Pj_isWord : JPr := fun A1 A2 σ ρ => match A1, A2 with
  | [.int s], [.int s'] => Rj 0 σ ρ ∧ s = s'
  | _, _ => False
def Qj_isWord : JQr := fun A1 A2 σ ρ w τ w' τ' => match A1, A2 with
  | [.int s], [.int s'] => ∃ b : Int32, w = some (.int b) ∧ w' = some (.int b) ∧ σ = τ ∧ ρ = τ' ∧ (b = 0 ∨ (b = 1 ∧ aI σ 3 (gI σ 14).toNatClampNeg = 4 ∧ aI σ 6 (gI σ 14).toNatClampNeg = s))
  | _, _ => False
set_option maxRecDepth 100000 in
set_option maxHeartbeats 4000000 in
theorem j_isWord : JMet 15 Pj_isWord Qj_isWord := by
  refine JMet.by BisWord [] rfl jc0 ?_
  intro A1 A2 σ ρ hP K hB hW
  unfold Pj_isWord at hP
  split at hP
  next s s' =>
    obtain ⟨hR, rfl⟩ := hP
    intro n0
    refine hB _ _ _ _ _ _ _ _ (fun m1 hm1 => ?_)
    dsimp only [jgo, jwp, jst, jct, rfd, BisWord, Nat.beq, lv_args, rlk, rs1, rs2, rdl, rky, rcd, rno, rsw, Value.category, List.filter, List.take, List.drop, List.reverse, List.reverseAux, List.cons_append, List.nil_append, Option.toList, Int.toNat, Int.reduceToNat, if_pos, if_neg, reduceIte, ↓reduceIte, Nat.reduceAdd, Nat.reduceEqDiff, Nat.reduceBEq, beq_self_eq_true, Bool.not_true, Bool.not_false, Bool.and_true, Bool.and_false, Bool.true_and, Bool.false_and, gI_sI, gI_sL, gI_sA, gI_sM, gL_sI, gL_sL, gL_sA, gL_sM, aI_sI, aI_sL, aI_sA, aI_sM, aL_sI, aL_sL, aL_sA, aL_sM, BisWord_0, BisWord_13, BisWord_26, BisWord_30, BisWord_31, oi_0, oi_1, oi_4]; try dsimp only
    try simp only [hR.e2, hR.e14, hR.e15, hR.e17, hR.e18, hR.e36, hR.e42, hR.e49, hR.a3, hR.a6, hR.a51, hR.a19, hR.hp]
    intro p2 q2
    try simp only [hR.e2, hR.e14, hR.e15, hR.e17, hR.e18, hR.e36, hR.e42, hR.e49, hR.a3, hR.a6, hR.a51, hR.a19, hR.hp]
    refine ⟨fun h3 => ⟨(by exact h3), ?_⟩, fun h3 => ⟨(by exact h3), ?_⟩⟩
    · refine hB _ _ _ _ _ _ _ _ (fun m4 hm4 => ?_)
      dsimp only [jgo, jwp, jst, jct, rfd, BisWord, Nat.beq, lv_args, rlk, rs1, rs2, rdl, rky, rcd, rno, rsw, Value.category, List.filter, List.take, List.drop, List.reverse, List.reverseAux, List.cons_append, List.nil_append, Option.toList, Int.toNat, Int.reduceToNat, if_pos, if_neg, reduceIte, ↓reduceIte, Nat.reduceAdd, Nat.reduceEqDiff, Nat.reduceBEq, beq_self_eq_true, Bool.not_true, Bool.not_false, Bool.and_true, Bool.and_false, Bool.true_and, Bool.false_and, gI_sI, gI_sL, gI_sA, gI_sM, gL_sI, gL_sL, gL_sA, gL_sM, aI_sI, aI_sL, aI_sA, aI_sM, aL_sI, aL_sL, aL_sA, aL_sM, BisWord_0, BisWord_13, BisWord_26, BisWord_30, BisWord_31, oi_0, oi_1, oi_4]; try dsimp only
      try simp only [hR.e2, hR.e14, hR.e15, hR.e17, hR.e18, hR.e36, hR.e42, hR.e49, hR.a3, hR.a6, hR.a51, hR.a19, hR.hp]
      refine hB _ _ _ _ _ _ _ _ (fun m5 hm5 => ?_)
      dsimp only [jgo, jwp, jst, jct, rfd, BisWord, Nat.beq, lv_args, rlk, rs1, rs2, rdl, rky, rcd, rno, rsw, Value.category, List.filter, List.take, List.drop, List.reverse, List.reverseAux, List.cons_append, List.nil_append, Option.toList, Int.toNat, Int.reduceToNat, if_pos, if_neg, reduceIte, ↓reduceIte, Nat.reduceAdd, Nat.reduceEqDiff, Nat.reduceBEq, beq_self_eq_true, Bool.not_true, Bool.not_false, Bool.and_true, Bool.and_false, Bool.true_and, Bool.false_and, gI_sI, gI_sL, gI_sA, gI_sM, gL_sI, gL_sL, gL_sA, gL_sM, aI_sI, aI_sL, aI_sA, aI_sM, aL_sI, aL_sL, aL_sA, aL_sM, BisWord_0, BisWord_13, BisWord_26, BisWord_30, BisWord_31, oi_0, oi_1, oi_4]; try dsimp only
      try simp only [hR.e2, hR.e14, hR.e15, hR.e17, hR.e18, hR.e36, hR.e42, hR.e49, hR.a3, hR.a6, hR.a51, hR.a19, hR.hp]
      unfold Qj_isWord
      try dsimp only
      exact ⟨_, rfl, rfl, rfl, rfl, Or.inl rfl⟩
    · refine hB _ _ _ _ _ _ _ _ (fun m6 hm6 => ?_)
      dsimp only [jgo, jwp, jst, jct, rfd, BisWord, Nat.beq, lv_args, rlk, rs1, rs2, rdl, rky, rcd, rno, rsw, Value.category, List.filter, List.take, List.drop, List.reverse, List.reverseAux, List.cons_append, List.nil_append, Option.toList, Int.toNat, Int.reduceToNat, if_pos, if_neg, reduceIte, ↓reduceIte, Nat.reduceAdd, Nat.reduceEqDiff, Nat.reduceBEq, beq_self_eq_true, Bool.not_true, Bool.not_false, Bool.and_true, Bool.and_false, Bool.true_and, Bool.false_and, gI_sI, gI_sL, gI_sA, gI_sM, gL_sI, gL_sL, gL_sA, gL_sM, aI_sI, aI_sL, aI_sA, aI_sM, aL_sI, aL_sL, aL_sA, aL_sM, BisWord_0, BisWord_13, BisWord_26, BisWord_30, BisWord_31, oi_0, oi_1, oi_4]; try dsimp only
      try simp only [hR.e2, hR.e14, hR.e15, hR.e17, hR.e18, hR.e36, hR.e42, hR.e49, hR.a3, hR.a6, hR.a51, hR.a19, hR.hp]
      intro p7 q7
      try simp only [hR.e2, hR.e14, hR.e15, hR.e17, hR.e18, hR.e36, hR.e42, hR.e49, hR.a3, hR.a6, hR.a51, hR.a19, hR.hp]
      refine ⟨fun h8 => ⟨(by exact h8), ?_⟩, fun h8 => ⟨(by exact h8), ?_⟩⟩
      · refine hB _ _ _ _ _ _ _ _ (fun m9 hm9 => ?_)
        dsimp only [jgo, jwp, jst, jct, rfd, BisWord, Nat.beq, lv_args, rlk, rs1, rs2, rdl, rky, rcd, rno, rsw, Value.category, List.filter, List.take, List.drop, List.reverse, List.reverseAux, List.cons_append, List.nil_append, Option.toList, Int.toNat, Int.reduceToNat, if_pos, if_neg, reduceIte, ↓reduceIte, Nat.reduceAdd, Nat.reduceEqDiff, Nat.reduceBEq, beq_self_eq_true, Bool.not_true, Bool.not_false, Bool.and_true, Bool.and_false, Bool.true_and, Bool.false_and, gI_sI, gI_sL, gI_sA, gI_sM, gL_sI, gL_sL, gL_sA, gL_sM, aI_sI, aI_sL, aI_sA, aI_sM, aL_sI, aL_sL, aL_sA, aL_sM, BisWord_0, BisWord_13, BisWord_26, BisWord_30, BisWord_31, oi_0, oi_1, oi_4]; try dsimp only
        try simp only [hR.e2, hR.e14, hR.e15, hR.e17, hR.e18, hR.e36, hR.e42, hR.e49, hR.a3, hR.a6, hR.a51, hR.a19, hR.hp]
        refine hB _ _ _ _ _ _ _ _ (fun m10 hm10 => ?_)
        dsimp only [jgo, jwp, jst, jct, rfd, BisWord, Nat.beq, lv_args, rlk, rs1, rs2, rdl, rky, rcd, rno, rsw, Value.category, List.filter, List.take, List.drop, List.reverse, List.reverseAux, List.cons_append, List.nil_append, Option.toList, Int.toNat, Int.reduceToNat, if_pos, if_neg, reduceIte, ↓reduceIte, Nat.reduceAdd, Nat.reduceEqDiff, Nat.reduceBEq, beq_self_eq_true, Bool.not_true, Bool.not_false, Bool.and_true, Bool.and_false, Bool.true_and, Bool.false_and, gI_sI, gI_sL, gI_sA, gI_sM, gL_sI, gL_sL, gL_sA, gL_sM, aI_sI, aI_sL, aI_sA, aI_sM, aL_sI, aL_sL, aL_sA, aL_sM, BisWord_0, BisWord_13, BisWord_26, BisWord_30, BisWord_31, oi_0, oi_1, oi_4]; try dsimp only
        try simp only [hR.e2, hR.e14, hR.e15, hR.e17, hR.e18, hR.e36, hR.e42, hR.e49, hR.a3, hR.a6, hR.a51, hR.a19, hR.hp]
        unfold Qj_isWord
        try dsimp only
        exact ⟨_, rfl, rfl, rfl, rfl, Or.inl rfl⟩
      · refine hB _ _ _ _ _ _ _ _ (fun m11 hm11 => ?_)
        dsimp only [jgo, jwp, jst, jct, rfd, BisWord, Nat.beq, lv_args, rlk, rs1, rs2, rdl, rky, rcd, rno, rsw, Value.category, List.filter, List.take, List.drop, List.reverse, List.reverseAux, List.cons_append, List.nil_append, Option.toList, Int.toNat, Int.reduceToNat, if_pos, if_neg, reduceIte, ↓reduceIte, Nat.reduceAdd, Nat.reduceEqDiff, Nat.reduceBEq, beq_self_eq_true, Bool.not_true, Bool.not_false, Bool.and_true, Bool.and_false, Bool.true_and, Bool.false_and, gI_sI, gI_sL, gI_sA, gI_sM, gL_sI, gL_sL, gL_sA, gL_sM, aI_sI, aI_sL, aI_sA, aI_sM, aL_sI, aL_sL, aL_sA, aL_sM, BisWord_0, BisWord_13, BisWord_26, BisWord_30, BisWord_31, oi_0, oi_1, oi_4]; try dsimp only
        try simp only [hR.e2, hR.e14, hR.e15, hR.e17, hR.e18, hR.e36, hR.e42, hR.e49, hR.a3, hR.a6, hR.a51, hR.a19, hR.hp]
        refine hB _ _ _ _ _ _ _ _ (fun m12 hm12 => ?_)
        dsimp only [jgo, jwp, jst, jct, rfd, BisWord, Nat.beq, lv_args, rlk, rs1, rs2, rdl, rky, rcd, rno, rsw, Value.category, List.filter, List.take, List.drop, List.reverse, List.reverseAux, List.cons_append, List.nil_append, Option.toList, Int.toNat, Int.reduceToNat, if_pos, if_neg, reduceIte, ↓reduceIte, Nat.reduceAdd, Nat.reduceEqDiff, Nat.reduceBEq, beq_self_eq_true, Bool.not_true, Bool.not_false, Bool.and_true, Bool.and_false, Bool.true_and, Bool.false_and, gI_sI, gI_sL, gI_sA, gI_sM, gL_sI, gL_sL, gL_sA, gL_sM, aI_sI, aI_sL, aI_sA, aI_sM, aL_sI, aL_sL, aL_sA, aL_sM, BisWord_0, BisWord_13, BisWord_26, BisWord_30, BisWord_31, oi_0, oi_1, oi_4]; try dsimp only
        try simp only [hR.e2, hR.e14, hR.e15, hR.e17, hR.e18, hR.e36, hR.e42, hR.e49, hR.a3, hR.a6, hR.a51, hR.a19, hR.hp]
        unfold Qj_isWord
        try dsimp only
        exact ⟨_, rfl, rfl, rfl, rfl, Or.inr ⟨rfl, by lia, by lia⟩⟩
  next => exact hP.elim
def Pj_isSignAt : JPr := fun A1 A2 σ ρ => match A1, A2 with
  | [.int t, .int s], [.int t', .int s'] => Rj 0 σ ρ ∧ t = t' ∧ s = s'
  | _, _ => False
def Qj_isSignAt : JQr := fun A1 A2 σ ρ w τ w' τ' => match A1, A2 with
  | [.int t, .int s], [.int t', .int s'] => ∃ b : Int32, w = some (.int b) ∧ w' = some (.int b) ∧ σ = τ ∧ ρ = τ' ∧ (b = 0 ∨ (b = 1 ∧ aI σ 3 t.toNatClampNeg = 5))
  | _, _ => False
set_option maxRecDepth 100000 in
set_option maxHeartbeats 4000000 in
theorem j_isSignAt : JMet 16 Pj_isSignAt Qj_isSignAt := by
  refine JMet.by BisSignAt [] rfl jc0 ?_
  intro A1 A2 σ ρ hP K hB hW
  unfold Pj_isSignAt at hP
  split at hP
  next t s t' s' =>
    obtain ⟨hR, rfl, rfl⟩ := hP
    intro n0
    refine hB _ _ _ _ _ _ _ _ (fun m1 hm1 => ?_)
    dsimp only [jgo, jwp, jst, jct, rfd, BisSignAt, Nat.beq, lv_args, rlk, rs1, rs2, rdl, rky, rcd, rno, rsw, Value.category, List.filter, List.take, List.drop, List.reverse, List.reverseAux, List.cons_append, List.nil_append, Option.toList, Int.toNat, Int.reduceToNat, if_pos, if_neg, reduceIte, ↓reduceIte, Nat.reduceAdd, Nat.reduceEqDiff, Nat.reduceBEq, beq_self_eq_true, Bool.not_true, Bool.not_false, Bool.and_true, Bool.and_false, Bool.true_and, Bool.false_and, gI_sI, gI_sL, gI_sA, gI_sM, gL_sI, gL_sL, gL_sA, gL_sM, aI_sI, aI_sL, aI_sA, aI_sM, aL_sI, aL_sL, aL_sA, aL_sM, BisSignAt_0, BisSignAt_8, BisSignAt_18, BisSignAt_28, BisSignAt_32, BisSignAt_33, oi_0, oi_1, oi_5]; try dsimp only
    try simp only [hR.e2, hR.e14, hR.e15, hR.e17, hR.e18, hR.e36, hR.e42, hR.e49, hR.a3, hR.a6, hR.a51, hR.a19, hR.hp]
    refine ⟨fun h2 => ⟨(by exact h2), ?_⟩, fun h2 => ⟨(by exact h2), ?_⟩⟩
    · refine hB _ _ _ _ _ _ _ _ (fun m3 hm3 => ?_)
      dsimp only [jgo, jwp, jst, jct, rfd, BisSignAt, Nat.beq, lv_args, rlk, rs1, rs2, rdl, rky, rcd, rno, rsw, Value.category, List.filter, List.take, List.drop, List.reverse, List.reverseAux, List.cons_append, List.nil_append, Option.toList, Int.toNat, Int.reduceToNat, if_pos, if_neg, reduceIte, ↓reduceIte, Nat.reduceAdd, Nat.reduceEqDiff, Nat.reduceBEq, beq_self_eq_true, Bool.not_true, Bool.not_false, Bool.and_true, Bool.and_false, Bool.true_and, Bool.false_and, gI_sI, gI_sL, gI_sA, gI_sM, gL_sI, gL_sL, gL_sA, gL_sM, aI_sI, aI_sL, aI_sA, aI_sM, aL_sI, aL_sL, aL_sA, aL_sM, BisSignAt_0, BisSignAt_8, BisSignAt_18, BisSignAt_28, BisSignAt_32, BisSignAt_33, oi_0, oi_1, oi_5]; try dsimp only
      try simp only [hR.e2, hR.e14, hR.e15, hR.e17, hR.e18, hR.e36, hR.e42, hR.e49, hR.a3, hR.a6, hR.a51, hR.a19, hR.hp]
      refine hB _ _ _ _ _ _ _ _ (fun m4 hm4 => ?_)
      dsimp only [jgo, jwp, jst, jct, rfd, BisSignAt, Nat.beq, lv_args, rlk, rs1, rs2, rdl, rky, rcd, rno, rsw, Value.category, List.filter, List.take, List.drop, List.reverse, List.reverseAux, List.cons_append, List.nil_append, Option.toList, Int.toNat, Int.reduceToNat, if_pos, if_neg, reduceIte, ↓reduceIte, Nat.reduceAdd, Nat.reduceEqDiff, Nat.reduceBEq, beq_self_eq_true, Bool.not_true, Bool.not_false, Bool.and_true, Bool.and_false, Bool.true_and, Bool.false_and, gI_sI, gI_sL, gI_sA, gI_sM, gL_sI, gL_sL, gL_sA, gL_sM, aI_sI, aI_sL, aI_sA, aI_sM, aL_sI, aL_sL, aL_sA, aL_sM, BisSignAt_0, BisSignAt_8, BisSignAt_18, BisSignAt_28, BisSignAt_32, BisSignAt_33, oi_0, oi_1, oi_5]; try dsimp only
      try simp only [hR.e2, hR.e14, hR.e15, hR.e17, hR.e18, hR.e36, hR.e42, hR.e49, hR.a3, hR.a6, hR.a51, hR.a19, hR.hp]
      unfold Qj_isSignAt
      try dsimp only
      exact ⟨_, rfl, rfl, rfl, rfl, Or.inl rfl⟩
    · refine hB _ _ _ _ _ _ _ _ (fun m5 hm5 => ?_)
      dsimp only [jgo, jwp, jst, jct, rfd, BisSignAt, Nat.beq, lv_args, rlk, rs1, rs2, rdl, rky, rcd, rno, rsw, Value.category, List.filter, List.take, List.drop, List.reverse, List.reverseAux, List.cons_append, List.nil_append, Option.toList, Int.toNat, Int.reduceToNat, if_pos, if_neg, reduceIte, ↓reduceIte, Nat.reduceAdd, Nat.reduceEqDiff, Nat.reduceBEq, beq_self_eq_true, Bool.not_true, Bool.not_false, Bool.and_true, Bool.and_false, Bool.true_and, Bool.false_and, gI_sI, gI_sL, gI_sA, gI_sM, gL_sI, gL_sL, gL_sA, gL_sM, aI_sI, aI_sL, aI_sA, aI_sM, aL_sI, aL_sL, aL_sA, aL_sM, BisSignAt_0, BisSignAt_8, BisSignAt_18, BisSignAt_28, BisSignAt_32, BisSignAt_33, oi_0, oi_1, oi_5]; try dsimp only
      try simp only [hR.e2, hR.e14, hR.e15, hR.e17, hR.e18, hR.e36, hR.e42, hR.e49, hR.a3, hR.a6, hR.a51, hR.a19, hR.hp]
      intro p6 q6
      have hx : t.toNatClampNeg < (gI σ 2).toNatClampNeg := nT_lt (vp_in0 (by assumption)) (by lia)
      try simp only [hR.e2, hR.e14, hR.e15, hR.e17, hR.e18, hR.e36, hR.e42, hR.e49, hR.a3, hR.a6, hR.a51, hR.a19, hR.hp, hx]
      refine ⟨fun h7 => ⟨(by exact h7), ?_⟩, fun h7 => ⟨(by exact h7), ?_⟩⟩
      · refine hB _ _ _ _ _ _ _ _ (fun m8 hm8 => ?_)
        dsimp only [jgo, jwp, jst, jct, rfd, BisSignAt, Nat.beq, lv_args, rlk, rs1, rs2, rdl, rky, rcd, rno, rsw, Value.category, List.filter, List.take, List.drop, List.reverse, List.reverseAux, List.cons_append, List.nil_append, Option.toList, Int.toNat, Int.reduceToNat, if_pos, if_neg, reduceIte, ↓reduceIte, Nat.reduceAdd, Nat.reduceEqDiff, Nat.reduceBEq, beq_self_eq_true, Bool.not_true, Bool.not_false, Bool.and_true, Bool.and_false, Bool.true_and, Bool.false_and, gI_sI, gI_sL, gI_sA, gI_sM, gL_sI, gL_sL, gL_sA, gL_sM, aI_sI, aI_sL, aI_sA, aI_sM, aL_sI, aL_sL, aL_sA, aL_sM, BisSignAt_0, BisSignAt_8, BisSignAt_18, BisSignAt_28, BisSignAt_32, BisSignAt_33, oi_0, oi_1, oi_5]; try dsimp only
        try simp only [hR.e2, hR.e14, hR.e15, hR.e17, hR.e18, hR.e36, hR.e42, hR.e49, hR.a3, hR.a6, hR.a51, hR.a19, hR.hp, hx]
        refine hB _ _ _ _ _ _ _ _ (fun m9 hm9 => ?_)
        dsimp only [jgo, jwp, jst, jct, rfd, BisSignAt, Nat.beq, lv_args, rlk, rs1, rs2, rdl, rky, rcd, rno, rsw, Value.category, List.filter, List.take, List.drop, List.reverse, List.reverseAux, List.cons_append, List.nil_append, Option.toList, Int.toNat, Int.reduceToNat, if_pos, if_neg, reduceIte, ↓reduceIte, Nat.reduceAdd, Nat.reduceEqDiff, Nat.reduceBEq, beq_self_eq_true, Bool.not_true, Bool.not_false, Bool.and_true, Bool.and_false, Bool.true_and, Bool.false_and, gI_sI, gI_sL, gI_sA, gI_sM, gL_sI, gL_sL, gL_sA, gL_sM, aI_sI, aI_sL, aI_sA, aI_sM, aL_sI, aL_sL, aL_sA, aL_sM, BisSignAt_0, BisSignAt_8, BisSignAt_18, BisSignAt_28, BisSignAt_32, BisSignAt_33, oi_0, oi_1, oi_5]; try dsimp only
        try simp only [hR.e2, hR.e14, hR.e15, hR.e17, hR.e18, hR.e36, hR.e42, hR.e49, hR.a3, hR.a6, hR.a51, hR.a19, hR.hp, hx]
        unfold Qj_isSignAt
        try dsimp only
        exact ⟨_, rfl, rfl, rfl, rfl, Or.inl rfl⟩
      · refine hB _ _ _ _ _ _ _ _ (fun m10 hm10 => ?_)
        dsimp only [jgo, jwp, jst, jct, rfd, BisSignAt, Nat.beq, lv_args, rlk, rs1, rs2, rdl, rky, rcd, rno, rsw, Value.category, List.filter, List.take, List.drop, List.reverse, List.reverseAux, List.cons_append, List.nil_append, Option.toList, Int.toNat, Int.reduceToNat, if_pos, if_neg, reduceIte, ↓reduceIte, Nat.reduceAdd, Nat.reduceEqDiff, Nat.reduceBEq, beq_self_eq_true, Bool.not_true, Bool.not_false, Bool.and_true, Bool.and_false, Bool.true_and, Bool.false_and, gI_sI, gI_sL, gI_sA, gI_sM, gL_sI, gL_sL, gL_sA, gL_sM, aI_sI, aI_sL, aI_sA, aI_sM, aL_sI, aL_sL, aL_sA, aL_sM, BisSignAt_0, BisSignAt_8, BisSignAt_18, BisSignAt_28, BisSignAt_32, BisSignAt_33, oi_0, oi_1, oi_5]; try dsimp only
        try simp only [hR.e2, hR.e14, hR.e15, hR.e17, hR.e18, hR.e36, hR.e42, hR.e49, hR.a3, hR.a6, hR.a51, hR.a19, hR.hp, hx]
        intro p11 q11
        try simp only [hR.e2, hR.e14, hR.e15, hR.e17, hR.e18, hR.e36, hR.e42, hR.e49, hR.a3, hR.a6, hR.a51, hR.a19, hR.hp, hx]
        refine ⟨fun h12 => ⟨(by exact h12), ?_⟩, fun h12 => ⟨(by exact h12), ?_⟩⟩
        · refine hB _ _ _ _ _ _ _ _ (fun m13 hm13 => ?_)
          dsimp only [jgo, jwp, jst, jct, rfd, BisSignAt, Nat.beq, lv_args, rlk, rs1, rs2, rdl, rky, rcd, rno, rsw, Value.category, List.filter, List.take, List.drop, List.reverse, List.reverseAux, List.cons_append, List.nil_append, Option.toList, Int.toNat, Int.reduceToNat, if_pos, if_neg, reduceIte, ↓reduceIte, Nat.reduceAdd, Nat.reduceEqDiff, Nat.reduceBEq, beq_self_eq_true, Bool.not_true, Bool.not_false, Bool.and_true, Bool.and_false, Bool.true_and, Bool.false_and, gI_sI, gI_sL, gI_sA, gI_sM, gL_sI, gL_sL, gL_sA, gL_sM, aI_sI, aI_sL, aI_sA, aI_sM, aL_sI, aL_sL, aL_sA, aL_sM, BisSignAt_0, BisSignAt_8, BisSignAt_18, BisSignAt_28, BisSignAt_32, BisSignAt_33, oi_0, oi_1, oi_5]; try dsimp only
          try simp only [hR.e2, hR.e14, hR.e15, hR.e17, hR.e18, hR.e36, hR.e42, hR.e49, hR.a3, hR.a6, hR.a51, hR.a19, hR.hp, hx]
          refine hB _ _ _ _ _ _ _ _ (fun m14 hm14 => ?_)
          dsimp only [jgo, jwp, jst, jct, rfd, BisSignAt, Nat.beq, lv_args, rlk, rs1, rs2, rdl, rky, rcd, rno, rsw, Value.category, List.filter, List.take, List.drop, List.reverse, List.reverseAux, List.cons_append, List.nil_append, Option.toList, Int.toNat, Int.reduceToNat, if_pos, if_neg, reduceIte, ↓reduceIte, Nat.reduceAdd, Nat.reduceEqDiff, Nat.reduceBEq, beq_self_eq_true, Bool.not_true, Bool.not_false, Bool.and_true, Bool.and_false, Bool.true_and, Bool.false_and, gI_sI, gI_sL, gI_sA, gI_sM, gL_sI, gL_sL, gL_sA, gL_sM, aI_sI, aI_sL, aI_sA, aI_sM, aL_sI, aL_sL, aL_sA, aL_sM, BisSignAt_0, BisSignAt_8, BisSignAt_18, BisSignAt_28, BisSignAt_32, BisSignAt_33, oi_0, oi_1, oi_5]; try dsimp only
          try simp only [hR.e2, hR.e14, hR.e15, hR.e17, hR.e18, hR.e36, hR.e42, hR.e49, hR.a3, hR.a6, hR.a51, hR.a19, hR.hp, hx]
          unfold Qj_isSignAt
          try dsimp only
          exact ⟨_, rfl, rfl, rfl, rfl, Or.inl rfl⟩
        · refine hB _ _ _ _ _ _ _ _ (fun m15 hm15 => ?_)
          dsimp only [jgo, jwp, jst, jct, rfd, BisSignAt, Nat.beq, lv_args, rlk, rs1, rs2, rdl, rky, rcd, rno, rsw, Value.category, List.filter, List.take, List.drop, List.reverse, List.reverseAux, List.cons_append, List.nil_append, Option.toList, Int.toNat, Int.reduceToNat, if_pos, if_neg, reduceIte, ↓reduceIte, Nat.reduceAdd, Nat.reduceEqDiff, Nat.reduceBEq, beq_self_eq_true, Bool.not_true, Bool.not_false, Bool.and_true, Bool.and_false, Bool.true_and, Bool.false_and, gI_sI, gI_sL, gI_sA, gI_sM, gL_sI, gL_sL, gL_sA, gL_sM, aI_sI, aI_sL, aI_sA, aI_sM, aL_sI, aL_sL, aL_sA, aL_sM, BisSignAt_0, BisSignAt_8, BisSignAt_18, BisSignAt_28, BisSignAt_32, BisSignAt_33, oi_0, oi_1, oi_5]; try dsimp only
          try simp only [hR.e2, hR.e14, hR.e15, hR.e17, hR.e18, hR.e36, hR.e42, hR.e49, hR.a3, hR.a6, hR.a51, hR.a19, hR.hp, hx]
          refine hB _ _ _ _ _ _ _ _ (fun m16 hm16 => ?_)
          dsimp only [jgo, jwp, jst, jct, rfd, BisSignAt, Nat.beq, lv_args, rlk, rs1, rs2, rdl, rky, rcd, rno, rsw, Value.category, List.filter, List.take, List.drop, List.reverse, List.reverseAux, List.cons_append, List.nil_append, Option.toList, Int.toNat, Int.reduceToNat, if_pos, if_neg, reduceIte, ↓reduceIte, Nat.reduceAdd, Nat.reduceEqDiff, Nat.reduceBEq, beq_self_eq_true, Bool.not_true, Bool.not_false, Bool.and_true, Bool.and_false, Bool.true_and, Bool.false_and, gI_sI, gI_sL, gI_sA, gI_sM, gL_sI, gL_sL, gL_sA, gL_sM, aI_sI, aI_sL, aI_sA, aI_sM, aL_sI, aL_sL, aL_sA, aL_sM, BisSignAt_0, BisSignAt_8, BisSignAt_18, BisSignAt_28, BisSignAt_32, BisSignAt_33, oi_0, oi_1, oi_5]; try dsimp only
          try simp only [hR.e2, hR.e14, hR.e15, hR.e17, hR.e18, hR.e36, hR.e42, hR.e49, hR.a3, hR.a6, hR.a51, hR.a19, hR.hp, hx]
          unfold Qj_isSignAt
          try dsimp only
          exact ⟨_, rfl, rfl, rfl, rfl, Or.inr ⟨rfl, by lia⟩⟩
  next => exact hP.elim
def Pj_take : JPr := fun A1 A2 σ ρ => match A1, A2 with
  | [], [] => Rj 0 σ ρ ∧ ¬ aI σ 3 (gI σ 14).toNatClampNeg = 0 ∧ ¬ aI σ 3 (gI σ 14).toNatClampNeg = 6
  | _, _ => False
def Qj_take : JQr := fun A1 A2 σ ρ w τ w' τ' => match A1, A2 with
  | [], [] => ∃ b : Int32, w = some (.int b) ∧ w' = some (.int b) ∧ (b = 0 ∨ (b = 1 ∧ (∀ md, Rj md σ ρ → Rj md τ τ') ∧ Kx σ τ ∧ (gI τ 14 = gI σ 14 + 1 ∧ aI τ' 39 = aI ρ 39 ∧ gI τ 34 = gI σ 34 ∧ gI τ' 34 = gI ρ 34)))
  | _, _ => False
set_option maxRecDepth 100000 in
set_option maxHeartbeats 4000000 in
theorem j_take : JMet 17 Pj_take Qj_take := by
  refine JMet.by Btake [(12, (fun A1 A2 σ ρ => Pu_wrong A1 σ ∧ Pu_wrong A2 ρ), (fun A1 A2 σ ρ w τ w' τ' => Qu_wrong A1 σ w τ ∧ Qu_wrong A2 ρ w' τ'))] rfl (jcc (JMet.u u_wrong) jc0) ?_
  intro A1 A2 σ ρ hP K hB hW
  unfold Pj_take at hP
  split at hP
  next =>
    obtain ⟨hR, ht⟩ := hP
    intro n0
    refine hB _ _ _ _ _ _ _ _ (fun m1 hm1 => ?_)
    dsimp only [jgo, jwp, jst, jct, rfd, Btake, Nat.beq, lv_args, rlk, rs1, rs2, rdl, rky, rcd, rno, rsw, Value.category, List.filter, List.take, List.drop, List.reverse, List.reverseAux, List.cons_append, List.nil_append, Option.toList, Int.toNat, Int.reduceToNat, if_pos, if_neg, reduceIte, ↓reduceIte, Nat.reduceAdd, Nat.reduceEqDiff, Nat.reduceBEq, beq_self_eq_true, Bool.not_true, Bool.not_false, Bool.and_true, Bool.and_false, Bool.true_and, Bool.false_and, gI_sI, gI_sL, gI_sA, gI_sM, gL_sI, gL_sL, gL_sA, gL_sM, aI_sI, aI_sL, aI_sA, aI_sM, aL_sI, aL_sL, aL_sA, aL_sM, Btake_0, Btake_10, Btake_20, oi_1, oi_3, oi_500, Pu_wrong]; try dsimp only
    try simp only [hR.e2, hR.e14, hR.e15, hR.e17, hR.e18, hR.e36, hR.e42, hR.e49, hR.a3, hR.a6, hR.a51, hR.a19, hR.hp]
    refine ⟨fun h2 => ⟨(by exact h2), ?_⟩, fun h2 => ⟨(by exact h2), ?_⟩⟩
    · refine hB _ _ _ _ _ _ _ _ (fun m3 hm3 => ?_)
      dsimp only [jgo, jwp, jst, jct, rfd, Btake, Nat.beq, lv_args, rlk, rs1, rs2, rdl, rky, rcd, rno, rsw, Value.category, List.filter, List.take, List.drop, List.reverse, List.reverseAux, List.cons_append, List.nil_append, Option.toList, Int.toNat, Int.reduceToNat, if_pos, if_neg, reduceIte, ↓reduceIte, Nat.reduceAdd, Nat.reduceEqDiff, Nat.reduceBEq, beq_self_eq_true, Bool.not_true, Bool.not_false, Bool.and_true, Bool.and_false, Bool.true_and, Bool.false_and, gI_sI, gI_sL, gI_sA, gI_sM, gL_sI, gL_sL, gL_sA, gL_sM, aI_sI, aI_sL, aI_sA, aI_sM, aL_sI, aL_sL, aL_sA, aL_sM, Btake_0, Btake_10, Btake_20, oi_1, oi_3, oi_500, Pu_wrong]; try dsimp only
      try simp only [hR.e2, hR.e14, hR.e15, hR.e17, hR.e18, hR.e36, hR.e42, hR.e49, hR.a3, hR.a6, hR.a51, hR.a19, hR.hp]
      unfold Qj_take
      try dsimp only
      exact ⟨_, rfl, rfl, Or.inr ⟨rfl, fun md hm => hm.p S1.s S1.s rfl rfl (by lia) ht, Kx.rf.i rfl, rfl, rfl, rfl, rfl⟩⟩
    · refine hB _ _ _ _ _ _ _ _ (fun m4 hm4 => ?_)
      dsimp only [jgo, jwp, jst, jct, rfd, Btake, Nat.beq, lv_args, rlk, rs1, rs2, rdl, rky, rcd, rno, rsw, Value.category, List.filter, List.take, List.drop, List.reverse, List.reverseAux, List.cons_append, List.nil_append, Option.toList, Int.toNat, Int.reduceToNat, if_pos, if_neg, reduceIte, ↓reduceIte, Nat.reduceAdd, Nat.reduceEqDiff, Nat.reduceBEq, beq_self_eq_true, Bool.not_true, Bool.not_false, Bool.and_true, Bool.and_false, Bool.true_and, Bool.false_and, gI_sI, gI_sL, gI_sA, gI_sM, gL_sI, gL_sL, gL_sA, gL_sM, aI_sI, aI_sL, aI_sA, aI_sM, aL_sI, aL_sL, aL_sA, aL_sM, Btake_0, Btake_10, Btake_20, oi_1, oi_3, oi_500, Pu_wrong]; try dsimp only
      try simp only [hR.e2, hR.e14, hR.e15, hR.e17, hR.e18, hR.e36, hR.e42, hR.e49, hR.a3, hR.a6, hR.a51, hR.a19, hR.hp]
      refine ⟨⟨trivial, trivial⟩, fun w5 τ5 w5' τ5' hq5 => ?_⟩
      obtain ⟨rfl, rfl⟩ := hq5
      dsimp only [Option.toList, List.cons_append, List.nil_append, Nat.beq, gI_sI, gI_sL, gI_sA, gI_sM, gL_sI, gL_sL, gL_sA, gL_sM, aI_sI, aI_sL, aI_sA, aI_sM, aL_sI, aL_sL, aL_sA, aL_sM]
      try simp only [hR.e2, hR.e14, hR.e15, hR.e17, hR.e18, hR.e36, hR.e42, hR.e49, hR.a3, hR.a6, hR.a51, hR.a19, hR.hp]
      unfold Qj_take
      try dsimp only
      exact ⟨_, rfl, rfl, Or.inl rfl⟩
  next => exact hP.elim
def Pj_want : JPr := fun A1 A2 σ ρ => match A1, A2 with
  | [.int s], [.int s'] => Rj 0 σ ρ ∧ s = s'
  | _, _ => False
def Qj_want : JQr := fun A1 A2 σ ρ w τ w' τ' => match A1, A2 with
  | [.int s], [.int s'] => ∃ b : Int32, w = some (.int b) ∧ w' = some (.int b) ∧ (b = 0 ∨ (b = 1 ∧ (∀ md, Rj md σ ρ → Rj md τ τ') ∧ Kx σ τ ∧ aI τ' 39 = aI ρ 39))
  | _, _ => False
set_option maxRecDepth 100000 in
set_option maxHeartbeats 4000000 in
theorem j_want : JMet 18 Pj_want Qj_want := by
  refine JMet.by Bwant [(13, (fun A1 A2 σ ρ => Pu_cant A1 σ ∧ Pu_cant A2 ρ), (fun A1 A2 σ ρ w τ w' τ' => Qu_cant A1 σ w τ ∧ Qu_cant A2 ρ w' τ')), (14, Pj_isSign, Qj_isSign), (17, Pj_take, Qj_take)] rfl (jcc (JMet.u u_cant) (jcc j_isSign (jcc j_take jc0))) ?_
  intro A1 A2 σ ρ hP K hB hW
  unfold Pj_want at hP
  split at hP
  next s s' =>
    obtain ⟨hR, rfl⟩ := hP
    intro n0
    refine hB _ _ _ _ _ _ _ _ (fun m1 hm1 => ?_)
    dsimp only [jgo, jwp, jst, jct, rfd, Bwant, Nat.beq, lv_args, rlk, rs1, rs2, rdl, rky, rcd, rno, rsw, Value.category, List.filter, List.take, List.drop, List.reverse, List.reverseAux, List.cons_append, List.nil_append, Option.toList, Int.toNat, Int.reduceToNat, if_pos, if_neg, reduceIte, ↓reduceIte, Nat.reduceAdd, Nat.reduceEqDiff, Nat.reduceBEq, beq_self_eq_true, Bool.not_true, Bool.not_false, Bool.and_true, Bool.and_false, Bool.true_and, Bool.false_and, gI_sI, gI_sL, gI_sA, gI_sM, gL_sI, gL_sL, gL_sA, gL_sM, aI_sI, aI_sL, aI_sA, aI_sM, aL_sI, aL_sL, aL_sA, aL_sM, Bwant_0, Bwant_8, Bwant_15, Bwant_19, Pu_cant, Pj_isSign, Pj_take]; try dsimp only
    try simp only [hR.e2, hR.e14, hR.e15, hR.e17, hR.e18, hR.e36, hR.e42, hR.e49, hR.a3, hR.a6, hR.a51, hR.a19, hR.hp]
    refine ⟨⟨(Rj.w (md := 0) (by (repeat (first | exact hR | refine Rj.i ?_ rfl | refine Rj.a ?_ rfl | refine Rj.m ?_ | refine Rj.s ?_ (by decide) | refine Rj.o1 ?_ (by first | lia | (dsimp only [Nat.beq, gI_sI, gI_sL, gI_sA, gI_sM, gL_sI, gL_sL, gL_sA, gL_sM, aI_sI, aI_sL, aI_sA, aI_sM, aL_sI, aL_sL, aL_sA, aL_sM]; lia)) | refine Rj.o2 ?_ | refine Rj.f1 ?_ (by first | lia | (dsimp only [Nat.beq, gI_sI, gI_sL, gI_sA, gI_sM, gL_sI, gL_sL, gL_sA, gL_sM, aI_sI, aI_sL, aI_sA, aI_sM, aL_sI, aL_sL, aL_sA, aL_sM]; lia)) | refine Rj.f2 ?_ | refine Rj.fs ?_)))), (by first | exact True.intro | rfl)⟩, fun w2 τ2 w2' τ2' hq2 => ?_⟩
    obtain ⟨b2, rfl, rfl, rfl, rfl, hb2⟩ := hq2
    rcases hb2 with rfl | ⟨rfl, hf2⟩
    · dsimp only [Option.toList, List.cons_append, List.nil_append, Nat.beq, gI_sI, gI_sL, gI_sA, gI_sM, gL_sI, gL_sL, gL_sA, gL_sM, aI_sI, aI_sL, aI_sA, aI_sM, aL_sI, aL_sL, aL_sA, aL_sM]
      try simp only [hR.e2, hR.e14, hR.e15, hR.e17, hR.e18, hR.e36, hR.e42, hR.e49, hR.a3, hR.a6, hR.a51, hR.a19, hR.hp]
      refine ⟨fun h3 => ⟨(by exact h3), ?_⟩, fun h3 => absurd h3 (by decide)⟩
      clear h3
      refine hB _ _ _ _ _ _ _ _ (fun m4 hm4 => ?_)
      dsimp only [jgo, jwp, jst, jct, rfd, Bwant, Nat.beq, lv_args, rlk, rs1, rs2, rdl, rky, rcd, rno, rsw, Value.category, List.filter, List.take, List.drop, List.reverse, List.reverseAux, List.cons_append, List.nil_append, Option.toList, Int.toNat, Int.reduceToNat, if_pos, if_neg, reduceIte, ↓reduceIte, Nat.reduceAdd, Nat.reduceEqDiff, Nat.reduceBEq, beq_self_eq_true, Bool.not_true, Bool.not_false, Bool.and_true, Bool.and_false, Bool.true_and, Bool.false_and, gI_sI, gI_sL, gI_sA, gI_sM, gL_sI, gL_sL, gL_sA, gL_sM, aI_sI, aI_sL, aI_sA, aI_sM, aL_sI, aL_sL, aL_sA, aL_sM, Bwant_0, Bwant_8, Bwant_15, Bwant_19, Pu_cant, Pj_isSign, Pj_take]; try dsimp only
      try simp only [hR.e2, hR.e14, hR.e15, hR.e17, hR.e18, hR.e36, hR.e42, hR.e49, hR.a3, hR.a6, hR.a51, hR.a19, hR.hp]
      refine ⟨⟨trivial, trivial⟩, fun w5 τ5 w5' τ5' hq5 => ?_⟩
      obtain ⟨rfl, rfl⟩ := hq5
      dsimp only [Option.toList, List.cons_append, List.nil_append, Nat.beq, gI_sI, gI_sL, gI_sA, gI_sM, gL_sI, gL_sL, gL_sA, gL_sM, aI_sI, aI_sL, aI_sA, aI_sM, aL_sI, aL_sL, aL_sA, aL_sM]
      try simp only [hR.e2, hR.e14, hR.e15, hR.e17, hR.e18, hR.e36, hR.e42, hR.e49, hR.a3, hR.a6, hR.a51, hR.a19, hR.hp]
      refine hB _ _ _ _ _ _ _ _ (fun m6 hm6 => ?_)
      dsimp only [jgo, jwp, jst, jct, rfd, Bwant, Nat.beq, lv_args, rlk, rs1, rs2, rdl, rky, rcd, rno, rsw, Value.category, List.filter, List.take, List.drop, List.reverse, List.reverseAux, List.cons_append, List.nil_append, Option.toList, Int.toNat, Int.reduceToNat, if_pos, if_neg, reduceIte, ↓reduceIte, Nat.reduceAdd, Nat.reduceEqDiff, Nat.reduceBEq, beq_self_eq_true, Bool.not_true, Bool.not_false, Bool.and_true, Bool.and_false, Bool.true_and, Bool.false_and, gI_sI, gI_sL, gI_sA, gI_sM, gL_sI, gL_sL, gL_sA, gL_sM, aI_sI, aI_sL, aI_sA, aI_sM, aL_sI, aL_sL, aL_sA, aL_sM, Bwant_0, Bwant_8, Bwant_15, Bwant_19, Pu_cant, Pj_isSign, Pj_take]; try dsimp only
      try simp only [hR.e2, hR.e14, hR.e15, hR.e17, hR.e18, hR.e36, hR.e42, hR.e49, hR.a3, hR.a6, hR.a51, hR.a19, hR.hp]
      unfold Qj_want
      try dsimp only
      exact ⟨_, rfl, rfl, Or.inl rfl⟩
    · dsimp only [Option.toList, List.cons_append, List.nil_append, Nat.beq, gI_sI, gI_sL, gI_sA, gI_sM, gL_sI, gL_sL, gL_sA, gL_sM, aI_sI, aI_sL, aI_sA, aI_sM, aL_sI, aL_sL, aL_sA, aL_sM]
      try dsimp only [Nat.beq, gI_sI, gI_sL, gI_sA, gI_sM, gL_sI, gL_sL, gL_sA, gL_sM, aI_sI, aI_sL, aI_sA, aI_sM, aL_sI, aL_sL, aL_sA, aL_sM] at hf2
      try simp only [hR.e2, hR.e14, hR.e15, hR.e17, hR.e18, hR.e36, hR.e42, hR.e49, hR.a3, hR.a6, hR.a51, hR.a19, hR.hp]
      refine ⟨fun h7 => absurd h7 (by decide), fun h7 => ⟨(by exact h7), ?_⟩⟩
      clear h7
      refine hB _ _ _ _ _ _ _ _ (fun m8 hm8 => ?_)
      dsimp only [jgo, jwp, jst, jct, rfd, Bwant, Nat.beq, lv_args, rlk, rs1, rs2, rdl, rky, rcd, rno, rsw, Value.category, List.filter, List.take, List.drop, List.reverse, List.reverseAux, List.cons_append, List.nil_append, Option.toList, Int.toNat, Int.reduceToNat, if_pos, if_neg, reduceIte, ↓reduceIte, Nat.reduceAdd, Nat.reduceEqDiff, Nat.reduceBEq, beq_self_eq_true, Bool.not_true, Bool.not_false, Bool.and_true, Bool.and_false, Bool.true_and, Bool.false_and, gI_sI, gI_sL, gI_sA, gI_sM, gL_sI, gL_sL, gL_sA, gL_sM, aI_sI, aI_sL, aI_sA, aI_sM, aL_sI, aL_sL, aL_sA, aL_sM, Bwant_0, Bwant_8, Bwant_15, Bwant_19, Pu_cant, Pj_isSign, Pj_take]; try dsimp only
      try simp only [hR.e2, hR.e14, hR.e15, hR.e17, hR.e18, hR.e36, hR.e42, hR.e49, hR.a3, hR.a6, hR.a51, hR.a19, hR.hp]
      refine ⟨⟨(Rj.w (md := 0) (by (repeat (first | exact hR | refine Rj.i ?_ rfl | refine Rj.a ?_ rfl | refine Rj.m ?_ | refine Rj.s ?_ (by decide) | refine Rj.o1 ?_ (by first | lia | (dsimp only [Nat.beq, gI_sI, gI_sL, gI_sA, gI_sM, gL_sI, gL_sL, gL_sA, gL_sM, aI_sI, aI_sL, aI_sA, aI_sM, aL_sI, aL_sL, aL_sA, aL_sM]; lia)) | refine Rj.o2 ?_ | refine Rj.f1 ?_ (by first | lia | (dsimp only [Nat.beq, gI_sI, gI_sL, gI_sA, gI_sM, gL_sI, gL_sL, gL_sA, gL_sM, aI_sI, aI_sL, aI_sA, aI_sM, aL_sI, aL_sL, aL_sA, aL_sM]; lia)) | refine Rj.f2 ?_ | refine Rj.fs ?_)))), by lia, by lia⟩, fun w9 τ9 w9' τ9' hq9 => ?_⟩
      obtain ⟨b9, rfl, rfl, hb9⟩ := hq9
      rcases hb9 with rfl | ⟨rfl, hr9, hk9, hx9⟩
      · dsimp only [Option.toList, List.cons_append, List.nil_append, Nat.beq, gI_sI, gI_sL, gI_sA, gI_sM, gL_sI, gL_sL, gL_sA, gL_sM, aI_sI, aI_sL, aI_sA, aI_sM, aL_sI, aL_sL, aL_sA, aL_sM]
        try simp only [hR.e2, hR.e14, hR.e15, hR.e17, hR.e18, hR.e36, hR.e42, hR.e49, hR.a3, hR.a6, hR.a51, hR.a19, hR.hp]
        refine hB _ _ _ _ _ _ _ _ (fun m10 hm10 => ?_)
        dsimp only [jgo, jwp, jst, jct, rfd, Bwant, Nat.beq, lv_args, rlk, rs1, rs2, rdl, rky, rcd, rno, rsw, Value.category, List.filter, List.take, List.drop, List.reverse, List.reverseAux, List.cons_append, List.nil_append, Option.toList, Int.toNat, Int.reduceToNat, if_pos, if_neg, reduceIte, ↓reduceIte, Nat.reduceAdd, Nat.reduceEqDiff, Nat.reduceBEq, beq_self_eq_true, Bool.not_true, Bool.not_false, Bool.and_true, Bool.and_false, Bool.true_and, Bool.false_and, gI_sI, gI_sL, gI_sA, gI_sM, gL_sI, gL_sL, gL_sA, gL_sM, aI_sI, aI_sL, aI_sA, aI_sM, aL_sI, aL_sL, aL_sA, aL_sM, Bwant_0, Bwant_8, Bwant_15, Bwant_19, Pu_cant, Pj_isSign, Pj_take]; try dsimp only
        try simp only [hR.e2, hR.e14, hR.e15, hR.e17, hR.e18, hR.e36, hR.e42, hR.e49, hR.a3, hR.a6, hR.a51, hR.a19, hR.hp]
        unfold Qj_want
        try dsimp only
        exact ⟨_, rfl, rfl, Or.inl rfl⟩
      · dsimp only [Option.toList, List.cons_append, List.nil_append, Nat.beq, gI_sI, gI_sL, gI_sA, gI_sM, gL_sI, gL_sL, gL_sA, gL_sM, aI_sI, aI_sL, aI_sA, aI_sM, aL_sI, aL_sL, aL_sA, aL_sM]
        have hR9 : Rj 0 τ9 τ9' := hr9 _ (by (repeat (first | exact hR | refine Rj.i ?_ rfl | refine Rj.a ?_ rfl | refine Rj.m ?_ | refine Rj.s ?_ (by decide) | refine Rj.o1 ?_ (by first | lia | (dsimp only [Nat.beq, gI_sI, gI_sL, gI_sA, gI_sM, gL_sI, gL_sL, gL_sA, gL_sM, aI_sI, aI_sL, aI_sA, aI_sM, aL_sI, aL_sL, aL_sA, aL_sM]; lia)) | refine Rj.o2 ?_ | refine Rj.f1 ?_ (by first | lia | (dsimp only [Nat.beq, gI_sI, gI_sL, gI_sA, gI_sM, gL_sI, gL_sL, gL_sA, gL_sM, aI_sI, aI_sL, aI_sA, aI_sM, aL_sI, aL_sL, aL_sA, aL_sM]; lia)) | refine Rj.f2 ?_ | refine Rj.fs ?_)))
        have ht9 := hk9.2 3 rfl
        have hc9 := hk9.1 2 rfl
        try dsimp only [Nat.beq, gI_sI, gI_sL, gI_sA, gI_sM, gL_sI, gL_sL, gL_sA, gL_sM, aI_sI, aI_sL, aI_sA, aI_sM, aL_sI, aL_sL, aL_sA, aL_sM] at hx9
        try dsimp only [Nat.beq, gI_sI, gI_sL, gI_sA, gI_sM, gL_sI, gL_sL, gL_sA, gL_sM, aI_sI, aI_sL, aI_sA, aI_sM, aL_sI, aL_sL, aL_sA, aL_sM] at ht9
        try dsimp only [Nat.beq, gI_sI, gI_sL, gI_sA, gI_sM, gL_sI, gL_sL, gL_sA, gL_sM, aI_sI, aI_sL, aI_sA, aI_sM, aL_sI, aL_sL, aL_sA, aL_sM] at hc9
        have hh9 := hk9.1 62 rfl
        have hg9 := hk9.1 49 rfl
        try dsimp only [Nat.beq, gI_sI, gI_sL, gI_sA, gI_sM, gL_sI, gL_sL, gL_sA, gL_sM, aI_sI, aI_sL, aI_sA, aI_sM, aL_sI, aL_sL, aL_sA, aL_sM] at hh9
        try dsimp only [Nat.beq, gI_sI, gI_sL, gI_sA, gI_sM, gL_sI, gL_sL, gL_sA, gL_sM, aI_sI, aI_sL, aI_sA, aI_sM, aL_sI, aL_sL, aL_sA, aL_sM] at hg9
        have hz9 := congrFun ht9 (gI τ9 14).toNatClampNeg
        try simp only [hR9.e2, hR9.e14, hR9.e15, hR9.e17, hR9.e18, hR9.e36, hR9.e42, hR9.e49, hR9.a3, hR9.a6, hR9.a51, hR9.a19, hR9.hp]
        refine hB _ _ _ _ _ _ _ _ (fun m11 hm11 => ?_)
        dsimp only [jgo, jwp, jst, jct, rfd, Bwant, Nat.beq, lv_args, rlk, rs1, rs2, rdl, rky, rcd, rno, rsw, Value.category, List.filter, List.take, List.drop, List.reverse, List.reverseAux, List.cons_append, List.nil_append, Option.toList, Int.toNat, Int.reduceToNat, if_pos, if_neg, reduceIte, ↓reduceIte, Nat.reduceAdd, Nat.reduceEqDiff, Nat.reduceBEq, beq_self_eq_true, Bool.not_true, Bool.not_false, Bool.and_true, Bool.and_false, Bool.true_and, Bool.false_and, gI_sI, gI_sL, gI_sA, gI_sM, gL_sI, gL_sL, gL_sA, gL_sM, aI_sI, aI_sL, aI_sA, aI_sM, aL_sI, aL_sL, aL_sA, aL_sM, Bwant_0, Bwant_8, Bwant_15, Bwant_19, Pu_cant, Pj_isSign, Pj_take]; try dsimp only
        try simp only [hR9.e2, hR9.e14, hR9.e15, hR9.e17, hR9.e18, hR9.e36, hR9.e42, hR9.e49, hR9.a3, hR9.a6, hR9.a51, hR9.a19, hR9.hp]
        unfold Qj_want
        try dsimp only
        exact ⟨_, rfl, rfl, Or.inr ⟨rfl, fun md hm => hr9 md hm, by (repeat (first | exact Kx.rf | refine Kx.i ?_ rfl | refine Kx.a ?_ rfl | refine Kx.m ?_ | refine Kx.tr ?_ hk9)), hx9.2.1⟩⟩
  next => exact hP.elim
def Pj_enter : JPr := fun A1 A2 σ ρ => match A1, A2 with
  | [], [] => Rj 0 σ ρ
  | _, _ => False
def Qj_enter : JQr := fun A1 A2 σ ρ w τ w' τ' => match A1, A2 with
  | [], [] => ∃ b : Int32, w = some (.int b) ∧ w' = some (.int b) ∧ (b = 0 ∨ (b = 1 ∧ (∀ md, Rj md σ ρ → Rj md τ τ') ∧ Kx σ τ ∧ (gI τ 14 = gI σ 14 ∧ gI τ 29 = gI σ 29)))
  | _, _ => False
set_option maxRecDepth 100000 in
set_option maxHeartbeats 4000000 in
theorem j_enter : JMet 19 Pj_enter Qj_enter := by
  refine JMet.by Benter [(12, (fun A1 A2 σ ρ => Pu_wrong A1 σ ∧ Pu_wrong A2 ρ), (fun A1 A2 σ ρ w τ w' τ' => Qu_wrong A1 σ w τ ∧ Qu_wrong A2 ρ w' τ'))] rfl (jcc (JMet.u u_wrong) jc0) ?_
  intro A1 A2 σ ρ hP K hB hW
  unfold Pj_enter at hP
  split at hP
  next =>
    have hR := hP
    intro n0
    refine hB _ _ _ _ _ _ _ _ (fun m1 hm1 => ?_)
    dsimp only [jgo, jwp, jst, jct, rfd, Benter, Nat.beq, lv_args, rlk, rs1, rs2, rdl, rky, rcd, rno, rsw, Value.category, List.filter, List.take, List.drop, List.reverse, List.reverseAux, List.cons_append, List.nil_append, Option.toList, Int.toNat, Int.reduceToNat, if_pos, if_neg, reduceIte, ↓reduceIte, Nat.reduceAdd, Nat.reduceEqDiff, Nat.reduceBEq, beq_self_eq_true, Bool.not_true, Bool.not_false, Bool.and_true, Bool.and_false, Bool.true_and, Bool.false_and, gI_sI, gI_sL, gI_sA, gI_sM, gL_sI, gL_sL, gL_sA, gL_sM, aI_sI, aI_sL, aI_sA, aI_sM, aL_sI, aL_sL, aL_sA, aL_sM, Benter_0, Benter_19, Benter_34, Benter_38, Benter_39, Benter_47, oi_1, oi_20, oi_3, oi_6, Pu_wrong]; try dsimp only
    try simp only [hR.e2, hR.e14, hR.e15, hR.e17, hR.e18, hR.e36, hR.e42, hR.e49, hR.a3, hR.a6, hR.a51, hR.a19, hR.hp]
    refine ⟨fun h2 => ⟨(by exact h2), ?_⟩, fun h2 => ⟨(by exact h2), ?_⟩⟩
    · refine hB _ _ _ _ _ _ _ _ (fun m3 hm3 => ?_)
      dsimp only [jgo, jwp, jst, jct, rfd, Benter, Nat.beq, lv_args, rlk, rs1, rs2, rdl, rky, rcd, rno, rsw, Value.category, List.filter, List.take, List.drop, List.reverse, List.reverseAux, List.cons_append, List.nil_append, Option.toList, Int.toNat, Int.reduceToNat, if_pos, if_neg, reduceIte, ↓reduceIte, Nat.reduceAdd, Nat.reduceEqDiff, Nat.reduceBEq, beq_self_eq_true, Bool.not_true, Bool.not_false, Bool.and_true, Bool.and_false, Bool.true_and, Bool.false_and, gI_sI, gI_sL, gI_sA, gI_sM, gL_sI, gL_sL, gL_sA, gL_sM, aI_sI, aI_sL, aI_sA, aI_sM, aL_sI, aL_sL, aL_sA, aL_sM, Benter_0, Benter_19, Benter_34, Benter_38, Benter_39, Benter_47, oi_1, oi_20, oi_3, oi_6, Pu_wrong]; try dsimp only
      try simp only [hR.e2, hR.e14, hR.e15, hR.e17, hR.e18, hR.e36, hR.e42, hR.e49, hR.a3, hR.a6, hR.a51, hR.a19, hR.hp]
      unfold Qj_enter
      try dsimp only
      exact ⟨_, rfl, rfl, Or.inr ⟨rfl, fun md hm => Rj.s hm (by decide), by (repeat (first | exact Kx.rf | refine Kx.i ?_ rfl | refine Kx.a ?_ rfl | refine Kx.m ?_)), rfl, rfl⟩⟩
    · refine hB _ _ _ _ _ _ _ _ (fun m4 hm4 => ?_)
      dsimp only [jgo, jwp, jst, jct, rfd, Benter, Nat.beq, lv_args, rlk, rs1, rs2, rdl, rky, rcd, rno, rsw, Value.category, List.filter, List.take, List.drop, List.reverse, List.reverseAux, List.cons_append, List.nil_append, Option.toList, Int.toNat, Int.reduceToNat, if_pos, if_neg, reduceIte, ↓reduceIte, Nat.reduceAdd, Nat.reduceEqDiff, Nat.reduceBEq, beq_self_eq_true, Bool.not_true, Bool.not_false, Bool.and_true, Bool.and_false, Bool.true_and, Bool.false_and, gI_sI, gI_sL, gI_sA, gI_sM, gL_sI, gL_sL, gL_sA, gL_sM, aI_sI, aI_sL, aI_sA, aI_sM, aL_sI, aL_sL, aL_sA, aL_sM, Benter_0, Benter_19, Benter_34, Benter_38, Benter_39, Benter_47, oi_1, oi_20, oi_3, oi_6, Pu_wrong]; try dsimp only
      try simp only [hR.e2, hR.e14, hR.e15, hR.e17, hR.e18, hR.e36, hR.e42, hR.e49, hR.a3, hR.a6, hR.a51, hR.a19, hR.hp]
      intro p5 q5
      try simp only [hR.e2, hR.e14, hR.e15, hR.e17, hR.e18, hR.e36, hR.e42, hR.e49, hR.a3, hR.a6, hR.a51, hR.a19, hR.hp]
      refine ⟨fun h6 => ⟨(by exact h6), ?_⟩, fun h6 => ⟨(by exact h6), ?_⟩⟩
      · refine hB _ _ _ _ _ _ _ _ (fun m7 hm7 => ?_)
        dsimp only [jgo, jwp, jst, jct, rfd, Benter, Nat.beq, lv_args, rlk, rs1, rs2, rdl, rky, rcd, rno, rsw, Value.category, List.filter, List.take, List.drop, List.reverse, List.reverseAux, List.cons_append, List.nil_append, Option.toList, Int.toNat, Int.reduceToNat, if_pos, if_neg, reduceIte, ↓reduceIte, Nat.reduceAdd, Nat.reduceEqDiff, Nat.reduceBEq, beq_self_eq_true, Bool.not_true, Bool.not_false, Bool.and_true, Bool.and_false, Bool.true_and, Bool.false_and, gI_sI, gI_sL, gI_sA, gI_sM, gL_sI, gL_sL, gL_sA, gL_sM, aI_sI, aI_sL, aI_sA, aI_sM, aL_sI, aL_sL, aL_sA, aL_sM, Benter_0, Benter_19, Benter_34, Benter_38, Benter_39, Benter_47, oi_1, oi_20, oi_3, oi_6, Pu_wrong]; try dsimp only
        try simp only [hR.e2, hR.e14, hR.e15, hR.e17, hR.e18, hR.e36, hR.e42, hR.e49, hR.a3, hR.a6, hR.a51, hR.a19, hR.hp]
        refine hB _ _ _ _ _ _ _ _ (fun m8 hm8 => ?_)
        dsimp only [jgo, jwp, jst, jct, rfd, Benter, Nat.beq, lv_args, rlk, rs1, rs2, rdl, rky, rcd, rno, rsw, Value.category, List.filter, List.take, List.drop, List.reverse, List.reverseAux, List.cons_append, List.nil_append, Option.toList, Int.toNat, Int.reduceToNat, if_pos, if_neg, reduceIte, ↓reduceIte, Nat.reduceAdd, Nat.reduceEqDiff, Nat.reduceBEq, beq_self_eq_true, Bool.not_true, Bool.not_false, Bool.and_true, Bool.and_false, Bool.true_and, Bool.false_and, gI_sI, gI_sL, gI_sA, gI_sM, gL_sI, gL_sL, gL_sA, gL_sM, aI_sI, aI_sL, aI_sA, aI_sM, aL_sI, aL_sL, aL_sA, aL_sM, Benter_0, Benter_19, Benter_34, Benter_38, Benter_39, Benter_47, oi_1, oi_20, oi_3, oi_6, Pu_wrong]; try dsimp only
        try simp only [hR.e2, hR.e14, hR.e15, hR.e17, hR.e18, hR.e36, hR.e42, hR.e49, hR.a3, hR.a6, hR.a51, hR.a19, hR.hp]
        refine ⟨⟨trivial, trivial⟩, fun w9 τ9 w9' τ9' hq9 => ?_⟩
        obtain ⟨rfl, rfl⟩ := hq9
        dsimp only [Option.toList, List.cons_append, List.nil_append, Nat.beq, gI_sI, gI_sL, gI_sA, gI_sM, gL_sI, gL_sL, gL_sA, gL_sM, aI_sI, aI_sL, aI_sA, aI_sM, aL_sI, aL_sL, aL_sA, aL_sM]
        try simp only [hR.e2, hR.e14, hR.e15, hR.e17, hR.e18, hR.e36, hR.e42, hR.e49, hR.a3, hR.a6, hR.a51, hR.a19, hR.hp]
        unfold Qj_enter
        try dsimp only
        exact ⟨_, rfl, rfl, Or.inl rfl⟩
      · refine hB _ _ _ _ _ _ _ _ (fun m10 hm10 => ?_)
        dsimp only [jgo, jwp, jst, jct, rfd, Benter, Nat.beq, lv_args, rlk, rs1, rs2, rdl, rky, rcd, rno, rsw, Value.category, List.filter, List.take, List.drop, List.reverse, List.reverseAux, List.cons_append, List.nil_append, Option.toList, Int.toNat, Int.reduceToNat, if_pos, if_neg, reduceIte, ↓reduceIte, Nat.reduceAdd, Nat.reduceEqDiff, Nat.reduceBEq, beq_self_eq_true, Bool.not_true, Bool.not_false, Bool.and_true, Bool.and_false, Bool.true_and, Bool.false_and, gI_sI, gI_sL, gI_sA, gI_sM, gL_sI, gL_sL, gL_sA, gL_sM, aI_sI, aI_sL, aI_sA, aI_sM, aL_sI, aL_sL, aL_sA, aL_sM, Benter_0, Benter_19, Benter_34, Benter_38, Benter_39, Benter_47, oi_1, oi_20, oi_3, oi_6, Pu_wrong]; try dsimp only
        try simp only [hR.e2, hR.e14, hR.e15, hR.e17, hR.e18, hR.e36, hR.e42, hR.e49, hR.a3, hR.a6, hR.a51, hR.a19, hR.hp]
        refine hB _ _ _ _ _ _ _ _ (fun m11 hm11 => ?_)
        dsimp only [jgo, jwp, jst, jct, rfd, Benter, Nat.beq, lv_args, rlk, rs1, rs2, rdl, rky, rcd, rno, rsw, Value.category, List.filter, List.take, List.drop, List.reverse, List.reverseAux, List.cons_append, List.nil_append, Option.toList, Int.toNat, Int.reduceToNat, if_pos, if_neg, reduceIte, ↓reduceIte, Nat.reduceAdd, Nat.reduceEqDiff, Nat.reduceBEq, beq_self_eq_true, Bool.not_true, Bool.not_false, Bool.and_true, Bool.and_false, Bool.true_and, Bool.false_and, gI_sI, gI_sL, gI_sA, gI_sM, gL_sI, gL_sL, gL_sA, gL_sM, aI_sI, aI_sL, aI_sA, aI_sM, aL_sI, aL_sL, aL_sA, aL_sM, Benter_0, Benter_19, Benter_34, Benter_38, Benter_39, Benter_47, oi_1, oi_20, oi_3, oi_6, Pu_wrong]; try dsimp only
        try simp only [hR.e2, hR.e14, hR.e15, hR.e17, hR.e18, hR.e36, hR.e42, hR.e49, hR.a3, hR.a6, hR.a51, hR.a19, hR.hp]
        refine ⟨⟨trivial, trivial⟩, fun w12 τ12 w12' τ12' hq12 => ?_⟩
        obtain ⟨rfl, rfl⟩ := hq12
        dsimp only [Option.toList, List.cons_append, List.nil_append, Nat.beq, gI_sI, gI_sL, gI_sA, gI_sM, gL_sI, gL_sL, gL_sA, gL_sM, aI_sI, aI_sL, aI_sA, aI_sM, aL_sI, aL_sL, aL_sA, aL_sM]
        try simp only [hR.e2, hR.e14, hR.e15, hR.e17, hR.e18, hR.e36, hR.e42, hR.e49, hR.a3, hR.a6, hR.a51, hR.a19, hR.hp]
        unfold Qj_enter
        try dsimp only
        exact ⟨_, rfl, rfl, Or.inl rfl⟩
  next => exact hP.elim
def Pj_strength : JPr := fun A1 A2 σ ρ => match A1, A2 with
  | [.int s], [.int s'] => s = s'
  | _, _ => False
def Qj_strength : JQr := fun A1 A2 σ ρ w τ w' τ' => match A1, A2 with
  | [.int s], [.int s'] => ∃ r : Int32, w = some (.int r) ∧ w' = some (.int r) ∧ σ = τ ∧ ρ = τ'
  | _, _ => False
set_option maxRecDepth 100000 in
set_option maxHeartbeats 4000000 in
theorem j_strength : JMet 22 Pj_strength Qj_strength := by
  refine JMet.by Bstrength [] rfl jc0 ?_
  intro A1 A2 σ ρ hP K hB hW
  unfold Pj_strength at hP
  split at hP
  next s s' =>
    obtain rfl := hP
    intro n0
    refine hB _ _ _ _ _ _ _ _ (fun m1 hm1 => ?_)
    dsimp only [jgo, jwp, jst, jct, rfd, Bstrength, Nat.beq, lv_args, rlk, rs1, rs2, rdl, rky, rcd, rno, rsw, Value.category, List.filter, List.take, List.drop, List.reverse, List.reverseAux, List.cons_append, List.nil_append, Option.toList, Int.toNat, Int.reduceToNat, if_pos, if_neg, reduceIte, ↓reduceIte, Nat.reduceAdd, Nat.reduceEqDiff, Nat.reduceBEq, beq_self_eq_true, Bool.not_true, Bool.not_false, Bool.and_true, Bool.and_false, Bool.true_and, Bool.false_and, gI_sI, gI_sL, gI_sA, gI_sM, gL_sI, gL_sL, gL_sA, gL_sM, aI_sI, aI_sL, aI_sA, aI_sM, aL_sI, aL_sL, aL_sA, aL_sM, Bstrength_0, Bstrength_164, Bstrength_166, Bstrength_168, Bstrength_170, Bstrength_172, Bstrength_174, Bstrength_177, Bstrength_180, Bstrength_183, Bstrength_186, Bstrength_189, oi_0, oi_1, oi_10, oi_2, oi_3, oi_4, oi_5, oi_6, oi_7, oi_8, oi_9]; try dsimp only
    refine ⟨(by first | exact True.intro | rfl), ?_⟩
    refine ⟨fun h2 => ?_, fun h2 => ?_⟩
    · refine hB _ _ _ _ _ _ _ _ (fun m3 hm3 => ?_)
      dsimp only [jgo, jwp, jst, jct, rfd, Bstrength, Nat.beq, lv_args, rlk, rs1, rs2, rdl, rky, rcd, rno, rsw, Value.category, List.filter, List.take, List.drop, List.reverse, List.reverseAux, List.cons_append, List.nil_append, Option.toList, Int.toNat, Int.reduceToNat, if_pos, if_neg, reduceIte, ↓reduceIte, Nat.reduceAdd, Nat.reduceEqDiff, Nat.reduceBEq, beq_self_eq_true, Bool.not_true, Bool.not_false, Bool.and_true, Bool.and_false, Bool.true_and, Bool.false_and, gI_sI, gI_sL, gI_sA, gI_sM, gL_sI, gL_sL, gL_sA, gL_sM, aI_sI, aI_sL, aI_sA, aI_sM, aL_sI, aL_sL, aL_sA, aL_sM, Bstrength_0, Bstrength_164, Bstrength_166, Bstrength_168, Bstrength_170, Bstrength_172, Bstrength_174, Bstrength_177, Bstrength_180, Bstrength_183, Bstrength_186, Bstrength_189, oi_0, oi_1, oi_10, oi_2, oi_3, oi_4, oi_5, oi_6, oi_7, oi_8, oi_9]; try dsimp only
      unfold Qj_strength
      try dsimp only
      exact ⟨_, rfl, rfl, rfl, rfl⟩
    refine ⟨fun h4 => ?_, fun h4 => ?_⟩
    · refine hB _ _ _ _ _ _ _ _ (fun m5 hm5 => ?_)
      dsimp only [jgo, jwp, jst, jct, rfd, Bstrength, Nat.beq, lv_args, rlk, rs1, rs2, rdl, rky, rcd, rno, rsw, Value.category, List.filter, List.take, List.drop, List.reverse, List.reverseAux, List.cons_append, List.nil_append, Option.toList, Int.toNat, Int.reduceToNat, if_pos, if_neg, reduceIte, ↓reduceIte, Nat.reduceAdd, Nat.reduceEqDiff, Nat.reduceBEq, beq_self_eq_true, Bool.not_true, Bool.not_false, Bool.and_true, Bool.and_false, Bool.true_and, Bool.false_and, gI_sI, gI_sL, gI_sA, gI_sM, gL_sI, gL_sL, gL_sA, gL_sM, aI_sI, aI_sL, aI_sA, aI_sM, aL_sI, aL_sL, aL_sA, aL_sM, Bstrength_0, Bstrength_164, Bstrength_166, Bstrength_168, Bstrength_170, Bstrength_172, Bstrength_174, Bstrength_177, Bstrength_180, Bstrength_183, Bstrength_186, Bstrength_189, oi_0, oi_1, oi_10, oi_2, oi_3, oi_4, oi_5, oi_6, oi_7, oi_8, oi_9]; try dsimp only
      unfold Qj_strength
      try dsimp only
      exact ⟨_, rfl, rfl, rfl, rfl⟩
    refine ⟨fun h6 => ?_, fun h6 => ?_⟩
    · refine hB _ _ _ _ _ _ _ _ (fun m7 hm7 => ?_)
      dsimp only [jgo, jwp, jst, jct, rfd, Bstrength, Nat.beq, lv_args, rlk, rs1, rs2, rdl, rky, rcd, rno, rsw, Value.category, List.filter, List.take, List.drop, List.reverse, List.reverseAux, List.cons_append, List.nil_append, Option.toList, Int.toNat, Int.reduceToNat, if_pos, if_neg, reduceIte, ↓reduceIte, Nat.reduceAdd, Nat.reduceEqDiff, Nat.reduceBEq, beq_self_eq_true, Bool.not_true, Bool.not_false, Bool.and_true, Bool.and_false, Bool.true_and, Bool.false_and, gI_sI, gI_sL, gI_sA, gI_sM, gL_sI, gL_sL, gL_sA, gL_sM, aI_sI, aI_sL, aI_sA, aI_sM, aL_sI, aL_sL, aL_sA, aL_sM, Bstrength_0, Bstrength_164, Bstrength_166, Bstrength_168, Bstrength_170, Bstrength_172, Bstrength_174, Bstrength_177, Bstrength_180, Bstrength_183, Bstrength_186, Bstrength_189, oi_0, oi_1, oi_10, oi_2, oi_3, oi_4, oi_5, oi_6, oi_7, oi_8, oi_9]; try dsimp only
      unfold Qj_strength
      try dsimp only
      exact ⟨_, rfl, rfl, rfl, rfl⟩
    refine ⟨fun h8 => ?_, fun h8 => ?_⟩
    · refine hB _ _ _ _ _ _ _ _ (fun m9 hm9 => ?_)
      dsimp only [jgo, jwp, jst, jct, rfd, Bstrength, Nat.beq, lv_args, rlk, rs1, rs2, rdl, rky, rcd, rno, rsw, Value.category, List.filter, List.take, List.drop, List.reverse, List.reverseAux, List.cons_append, List.nil_append, Option.toList, Int.toNat, Int.reduceToNat, if_pos, if_neg, reduceIte, ↓reduceIte, Nat.reduceAdd, Nat.reduceEqDiff, Nat.reduceBEq, beq_self_eq_true, Bool.not_true, Bool.not_false, Bool.and_true, Bool.and_false, Bool.true_and, Bool.false_and, gI_sI, gI_sL, gI_sA, gI_sM, gL_sI, gL_sL, gL_sA, gL_sM, aI_sI, aI_sL, aI_sA, aI_sM, aL_sI, aL_sL, aL_sA, aL_sM, Bstrength_0, Bstrength_164, Bstrength_166, Bstrength_168, Bstrength_170, Bstrength_172, Bstrength_174, Bstrength_177, Bstrength_180, Bstrength_183, Bstrength_186, Bstrength_189, oi_0, oi_1, oi_10, oi_2, oi_3, oi_4, oi_5, oi_6, oi_7, oi_8, oi_9]; try dsimp only
      unfold Qj_strength
      try dsimp only
      exact ⟨_, rfl, rfl, rfl, rfl⟩
    refine ⟨fun h10 => ?_, fun h10 => ?_⟩
    · refine hB _ _ _ _ _ _ _ _ (fun m11 hm11 => ?_)
      dsimp only [jgo, jwp, jst, jct, rfd, Bstrength, Nat.beq, lv_args, rlk, rs1, rs2, rdl, rky, rcd, rno, rsw, Value.category, List.filter, List.take, List.drop, List.reverse, List.reverseAux, List.cons_append, List.nil_append, Option.toList, Int.toNat, Int.reduceToNat, if_pos, if_neg, reduceIte, ↓reduceIte, Nat.reduceAdd, Nat.reduceEqDiff, Nat.reduceBEq, beq_self_eq_true, Bool.not_true, Bool.not_false, Bool.and_true, Bool.and_false, Bool.true_and, Bool.false_and, gI_sI, gI_sL, gI_sA, gI_sM, gL_sI, gL_sL, gL_sA, gL_sM, aI_sI, aI_sL, aI_sA, aI_sM, aL_sI, aL_sL, aL_sA, aL_sM, Bstrength_0, Bstrength_164, Bstrength_166, Bstrength_168, Bstrength_170, Bstrength_172, Bstrength_174, Bstrength_177, Bstrength_180, Bstrength_183, Bstrength_186, Bstrength_189, oi_0, oi_1, oi_10, oi_2, oi_3, oi_4, oi_5, oi_6, oi_7, oi_8, oi_9]; try dsimp only
      unfold Qj_strength
      try dsimp only
      exact ⟨_, rfl, rfl, rfl, rfl⟩
    refine ⟨fun h12 => ?_, fun h12 => ?_⟩
    · refine hB _ _ _ _ _ _ _ _ (fun m13 hm13 => ?_)
      dsimp only [jgo, jwp, jst, jct, rfd, Bstrength, Nat.beq, lv_args, rlk, rs1, rs2, rdl, rky, rcd, rno, rsw, Value.category, List.filter, List.take, List.drop, List.reverse, List.reverseAux, List.cons_append, List.nil_append, Option.toList, Int.toNat, Int.reduceToNat, if_pos, if_neg, reduceIte, ↓reduceIte, Nat.reduceAdd, Nat.reduceEqDiff, Nat.reduceBEq, beq_self_eq_true, Bool.not_true, Bool.not_false, Bool.and_true, Bool.and_false, Bool.true_and, Bool.false_and, gI_sI, gI_sL, gI_sA, gI_sM, gL_sI, gL_sL, gL_sA, gL_sM, aI_sI, aI_sL, aI_sA, aI_sM, aL_sI, aL_sL, aL_sA, aL_sM, Bstrength_0, Bstrength_164, Bstrength_166, Bstrength_168, Bstrength_170, Bstrength_172, Bstrength_174, Bstrength_177, Bstrength_180, Bstrength_183, Bstrength_186, Bstrength_189, oi_0, oi_1, oi_10, oi_2, oi_3, oi_4, oi_5, oi_6, oi_7, oi_8, oi_9]; try dsimp only
      unfold Qj_strength
      try dsimp only
      exact ⟨_, rfl, rfl, rfl, rfl⟩
    refine ⟨fun h14 => ?_, fun h14 => ?_⟩
    · refine hB _ _ _ _ _ _ _ _ (fun m15 hm15 => ?_)
      dsimp only [jgo, jwp, jst, jct, rfd, Bstrength, Nat.beq, lv_args, rlk, rs1, rs2, rdl, rky, rcd, rno, rsw, Value.category, List.filter, List.take, List.drop, List.reverse, List.reverseAux, List.cons_append, List.nil_append, Option.toList, Int.toNat, Int.reduceToNat, if_pos, if_neg, reduceIte, ↓reduceIte, Nat.reduceAdd, Nat.reduceEqDiff, Nat.reduceBEq, beq_self_eq_true, Bool.not_true, Bool.not_false, Bool.and_true, Bool.and_false, Bool.true_and, Bool.false_and, gI_sI, gI_sL, gI_sA, gI_sM, gL_sI, gL_sL, gL_sA, gL_sM, aI_sI, aI_sL, aI_sA, aI_sM, aL_sI, aL_sL, aL_sA, aL_sM, Bstrength_0, Bstrength_164, Bstrength_166, Bstrength_168, Bstrength_170, Bstrength_172, Bstrength_174, Bstrength_177, Bstrength_180, Bstrength_183, Bstrength_186, Bstrength_189, oi_0, oi_1, oi_10, oi_2, oi_3, oi_4, oi_5, oi_6, oi_7, oi_8, oi_9]; try dsimp only
      unfold Qj_strength
      try dsimp only
      exact ⟨_, rfl, rfl, rfl, rfl⟩
    refine ⟨fun h16 => ?_, fun h16 => ?_⟩
    · refine hB _ _ _ _ _ _ _ _ (fun m17 hm17 => ?_)
      dsimp only [jgo, jwp, jst, jct, rfd, Bstrength, Nat.beq, lv_args, rlk, rs1, rs2, rdl, rky, rcd, rno, rsw, Value.category, List.filter, List.take, List.drop, List.reverse, List.reverseAux, List.cons_append, List.nil_append, Option.toList, Int.toNat, Int.reduceToNat, if_pos, if_neg, reduceIte, ↓reduceIte, Nat.reduceAdd, Nat.reduceEqDiff, Nat.reduceBEq, beq_self_eq_true, Bool.not_true, Bool.not_false, Bool.and_true, Bool.and_false, Bool.true_and, Bool.false_and, gI_sI, gI_sL, gI_sA, gI_sM, gL_sI, gL_sL, gL_sA, gL_sM, aI_sI, aI_sL, aI_sA, aI_sM, aL_sI, aL_sL, aL_sA, aL_sM, Bstrength_0, Bstrength_164, Bstrength_166, Bstrength_168, Bstrength_170, Bstrength_172, Bstrength_174, Bstrength_177, Bstrength_180, Bstrength_183, Bstrength_186, Bstrength_189, oi_0, oi_1, oi_10, oi_2, oi_3, oi_4, oi_5, oi_6, oi_7, oi_8, oi_9]; try dsimp only
      unfold Qj_strength
      try dsimp only
      exact ⟨_, rfl, rfl, rfl, rfl⟩
    refine ⟨fun h18 => ?_, fun h18 => ?_⟩
    · refine hB _ _ _ _ _ _ _ _ (fun m19 hm19 => ?_)
      dsimp only [jgo, jwp, jst, jct, rfd, Bstrength, Nat.beq, lv_args, rlk, rs1, rs2, rdl, rky, rcd, rno, rsw, Value.category, List.filter, List.take, List.drop, List.reverse, List.reverseAux, List.cons_append, List.nil_append, Option.toList, Int.toNat, Int.reduceToNat, if_pos, if_neg, reduceIte, ↓reduceIte, Nat.reduceAdd, Nat.reduceEqDiff, Nat.reduceBEq, beq_self_eq_true, Bool.not_true, Bool.not_false, Bool.and_true, Bool.and_false, Bool.true_and, Bool.false_and, gI_sI, gI_sL, gI_sA, gI_sM, gL_sI, gL_sL, gL_sA, gL_sM, aI_sI, aI_sL, aI_sA, aI_sM, aL_sI, aL_sL, aL_sA, aL_sM, Bstrength_0, Bstrength_164, Bstrength_166, Bstrength_168, Bstrength_170, Bstrength_172, Bstrength_174, Bstrength_177, Bstrength_180, Bstrength_183, Bstrength_186, Bstrength_189, oi_0, oi_1, oi_10, oi_2, oi_3, oi_4, oi_5, oi_6, oi_7, oi_8, oi_9]; try dsimp only
      unfold Qj_strength
      try dsimp only
      exact ⟨_, rfl, rfl, rfl, rfl⟩
    refine ⟨fun h20 => ?_, fun h20 => ?_⟩
    · refine hB _ _ _ _ _ _ _ _ (fun m21 hm21 => ?_)
      dsimp only [jgo, jwp, jst, jct, rfd, Bstrength, Nat.beq, lv_args, rlk, rs1, rs2, rdl, rky, rcd, rno, rsw, Value.category, List.filter, List.take, List.drop, List.reverse, List.reverseAux, List.cons_append, List.nil_append, Option.toList, Int.toNat, Int.reduceToNat, if_pos, if_neg, reduceIte, ↓reduceIte, Nat.reduceAdd, Nat.reduceEqDiff, Nat.reduceBEq, beq_self_eq_true, Bool.not_true, Bool.not_false, Bool.and_true, Bool.and_false, Bool.true_and, Bool.false_and, gI_sI, gI_sL, gI_sA, gI_sM, gL_sI, gL_sL, gL_sA, gL_sM, aI_sI, aI_sL, aI_sA, aI_sM, aL_sI, aL_sL, aL_sA, aL_sM, Bstrength_0, Bstrength_164, Bstrength_166, Bstrength_168, Bstrength_170, Bstrength_172, Bstrength_174, Bstrength_177, Bstrength_180, Bstrength_183, Bstrength_186, Bstrength_189, oi_0, oi_1, oi_10, oi_2, oi_3, oi_4, oi_5, oi_6, oi_7, oi_8, oi_9]; try dsimp only
      unfold Qj_strength
      try dsimp only
      exact ⟨_, rfl, rfl, rfl, rfl⟩
    refine ⟨fun h22 => ?_, fun h22 => ?_⟩
    · refine hB _ _ _ _ _ _ _ _ (fun m23 hm23 => ?_)
      dsimp only [jgo, jwp, jst, jct, rfd, Bstrength, Nat.beq, lv_args, rlk, rs1, rs2, rdl, rky, rcd, rno, rsw, Value.category, List.filter, List.take, List.drop, List.reverse, List.reverseAux, List.cons_append, List.nil_append, Option.toList, Int.toNat, Int.reduceToNat, if_pos, if_neg, reduceIte, ↓reduceIte, Nat.reduceAdd, Nat.reduceEqDiff, Nat.reduceBEq, beq_self_eq_true, Bool.not_true, Bool.not_false, Bool.and_true, Bool.and_false, Bool.true_and, Bool.false_and, gI_sI, gI_sL, gI_sA, gI_sM, gL_sI, gL_sL, gL_sA, gL_sM, aI_sI, aI_sL, aI_sA, aI_sM, aL_sI, aL_sL, aL_sA, aL_sM, Bstrength_0, Bstrength_164, Bstrength_166, Bstrength_168, Bstrength_170, Bstrength_172, Bstrength_174, Bstrength_177, Bstrength_180, Bstrength_183, Bstrength_186, Bstrength_189, oi_0, oi_1, oi_10, oi_2, oi_3, oi_4, oi_5, oi_6, oi_7, oi_8, oi_9]; try dsimp only
      unfold Qj_strength
      try dsimp only
      exact ⟨_, rfl, rfl, rfl, rfl⟩
    refine ⟨fun h24 => ?_, fun h24 => ?_⟩
    · refine hB _ _ _ _ _ _ _ _ (fun m25 hm25 => ?_)
      dsimp only [jgo, jwp, jst, jct, rfd, Bstrength, Nat.beq, lv_args, rlk, rs1, rs2, rdl, rky, rcd, rno, rsw, Value.category, List.filter, List.take, List.drop, List.reverse, List.reverseAux, List.cons_append, List.nil_append, Option.toList, Int.toNat, Int.reduceToNat, if_pos, if_neg, reduceIte, ↓reduceIte, Nat.reduceAdd, Nat.reduceEqDiff, Nat.reduceBEq, beq_self_eq_true, Bool.not_true, Bool.not_false, Bool.and_true, Bool.and_false, Bool.true_and, Bool.false_and, gI_sI, gI_sL, gI_sA, gI_sM, gL_sI, gL_sL, gL_sA, gL_sM, aI_sI, aI_sL, aI_sA, aI_sM, aL_sI, aL_sL, aL_sA, aL_sM, Bstrength_0, Bstrength_164, Bstrength_166, Bstrength_168, Bstrength_170, Bstrength_172, Bstrength_174, Bstrength_177, Bstrength_180, Bstrength_183, Bstrength_186, Bstrength_189, oi_0, oi_1, oi_10, oi_2, oi_3, oi_4, oi_5, oi_6, oi_7, oi_8, oi_9]; try dsimp only
      unfold Qj_strength
      try dsimp only
      exact ⟨_, rfl, rfl, rfl, rfl⟩
    refine ⟨fun h26 => ?_, fun h26 => ?_⟩
    · refine hB _ _ _ _ _ _ _ _ (fun m27 hm27 => ?_)
      dsimp only [jgo, jwp, jst, jct, rfd, Bstrength, Nat.beq, lv_args, rlk, rs1, rs2, rdl, rky, rcd, rno, rsw, Value.category, List.filter, List.take, List.drop, List.reverse, List.reverseAux, List.cons_append, List.nil_append, Option.toList, Int.toNat, Int.reduceToNat, if_pos, if_neg, reduceIte, ↓reduceIte, Nat.reduceAdd, Nat.reduceEqDiff, Nat.reduceBEq, beq_self_eq_true, Bool.not_true, Bool.not_false, Bool.and_true, Bool.and_false, Bool.true_and, Bool.false_and, gI_sI, gI_sL, gI_sA, gI_sM, gL_sI, gL_sL, gL_sA, gL_sM, aI_sI, aI_sL, aI_sA, aI_sM, aL_sI, aL_sL, aL_sA, aL_sM, Bstrength_0, Bstrength_164, Bstrength_166, Bstrength_168, Bstrength_170, Bstrength_172, Bstrength_174, Bstrength_177, Bstrength_180, Bstrength_183, Bstrength_186, Bstrength_189, oi_0, oi_1, oi_10, oi_2, oi_3, oi_4, oi_5, oi_6, oi_7, oi_8, oi_9]; try dsimp only
      unfold Qj_strength
      try dsimp only
      exact ⟨_, rfl, rfl, rfl, rfl⟩
    refine ⟨fun h28 => ?_, fun h28 => ?_⟩
    · refine hB _ _ _ _ _ _ _ _ (fun m29 hm29 => ?_)
      dsimp only [jgo, jwp, jst, jct, rfd, Bstrength, Nat.beq, lv_args, rlk, rs1, rs2, rdl, rky, rcd, rno, rsw, Value.category, List.filter, List.take, List.drop, List.reverse, List.reverseAux, List.cons_append, List.nil_append, Option.toList, Int.toNat, Int.reduceToNat, if_pos, if_neg, reduceIte, ↓reduceIte, Nat.reduceAdd, Nat.reduceEqDiff, Nat.reduceBEq, beq_self_eq_true, Bool.not_true, Bool.not_false, Bool.and_true, Bool.and_false, Bool.true_and, Bool.false_and, gI_sI, gI_sL, gI_sA, gI_sM, gL_sI, gL_sL, gL_sA, gL_sM, aI_sI, aI_sL, aI_sA, aI_sM, aL_sI, aL_sL, aL_sA, aL_sM, Bstrength_0, Bstrength_164, Bstrength_166, Bstrength_168, Bstrength_170, Bstrength_172, Bstrength_174, Bstrength_177, Bstrength_180, Bstrength_183, Bstrength_186, Bstrength_189, oi_0, oi_1, oi_10, oi_2, oi_3, oi_4, oi_5, oi_6, oi_7, oi_8, oi_9]; try dsimp only
      unfold Qj_strength
      try dsimp only
      exact ⟨_, rfl, rfl, rfl, rfl⟩
    refine ⟨fun h30 => ?_, fun h30 => ?_⟩
    · refine hB _ _ _ _ _ _ _ _ (fun m31 hm31 => ?_)
      dsimp only [jgo, jwp, jst, jct, rfd, Bstrength, Nat.beq, lv_args, rlk, rs1, rs2, rdl, rky, rcd, rno, rsw, Value.category, List.filter, List.take, List.drop, List.reverse, List.reverseAux, List.cons_append, List.nil_append, Option.toList, Int.toNat, Int.reduceToNat, if_pos, if_neg, reduceIte, ↓reduceIte, Nat.reduceAdd, Nat.reduceEqDiff, Nat.reduceBEq, beq_self_eq_true, Bool.not_true, Bool.not_false, Bool.and_true, Bool.and_false, Bool.true_and, Bool.false_and, gI_sI, gI_sL, gI_sA, gI_sM, gL_sI, gL_sL, gL_sA, gL_sM, aI_sI, aI_sL, aI_sA, aI_sM, aL_sI, aL_sL, aL_sA, aL_sM, Bstrength_0, Bstrength_164, Bstrength_166, Bstrength_168, Bstrength_170, Bstrength_172, Bstrength_174, Bstrength_177, Bstrength_180, Bstrength_183, Bstrength_186, Bstrength_189, oi_0, oi_1, oi_10, oi_2, oi_3, oi_4, oi_5, oi_6, oi_7, oi_8, oi_9]; try dsimp only
      unfold Qj_strength
      try dsimp only
      exact ⟨_, rfl, rfl, rfl, rfl⟩
    refine ⟨fun h32 => ?_, fun h32 => ?_⟩
    · refine hB _ _ _ _ _ _ _ _ (fun m33 hm33 => ?_)
      dsimp only [jgo, jwp, jst, jct, rfd, Bstrength, Nat.beq, lv_args, rlk, rs1, rs2, rdl, rky, rcd, rno, rsw, Value.category, List.filter, List.take, List.drop, List.reverse, List.reverseAux, List.cons_append, List.nil_append, Option.toList, Int.toNat, Int.reduceToNat, if_pos, if_neg, reduceIte, ↓reduceIte, Nat.reduceAdd, Nat.reduceEqDiff, Nat.reduceBEq, beq_self_eq_true, Bool.not_true, Bool.not_false, Bool.and_true, Bool.and_false, Bool.true_and, Bool.false_and, gI_sI, gI_sL, gI_sA, gI_sM, gL_sI, gL_sL, gL_sA, gL_sM, aI_sI, aI_sL, aI_sA, aI_sM, aL_sI, aL_sL, aL_sA, aL_sM, Bstrength_0, Bstrength_164, Bstrength_166, Bstrength_168, Bstrength_170, Bstrength_172, Bstrength_174, Bstrength_177, Bstrength_180, Bstrength_183, Bstrength_186, Bstrength_189, oi_0, oi_1, oi_10, oi_2, oi_3, oi_4, oi_5, oi_6, oi_7, oi_8, oi_9]; try dsimp only
      unfold Qj_strength
      try dsimp only
      exact ⟨_, rfl, rfl, rfl, rfl⟩
    refine ⟨fun h34 => ?_, fun h34 => ?_⟩
    · refine hB _ _ _ _ _ _ _ _ (fun m35 hm35 => ?_)
      dsimp only [jgo, jwp, jst, jct, rfd, Bstrength, Nat.beq, lv_args, rlk, rs1, rs2, rdl, rky, rcd, rno, rsw, Value.category, List.filter, List.take, List.drop, List.reverse, List.reverseAux, List.cons_append, List.nil_append, Option.toList, Int.toNat, Int.reduceToNat, if_pos, if_neg, reduceIte, ↓reduceIte, Nat.reduceAdd, Nat.reduceEqDiff, Nat.reduceBEq, beq_self_eq_true, Bool.not_true, Bool.not_false, Bool.and_true, Bool.and_false, Bool.true_and, Bool.false_and, gI_sI, gI_sL, gI_sA, gI_sM, gL_sI, gL_sL, gL_sA, gL_sM, aI_sI, aI_sL, aI_sA, aI_sM, aL_sI, aL_sL, aL_sA, aL_sM, Bstrength_0, Bstrength_164, Bstrength_166, Bstrength_168, Bstrength_170, Bstrength_172, Bstrength_174, Bstrength_177, Bstrength_180, Bstrength_183, Bstrength_186, Bstrength_189, oi_0, oi_1, oi_10, oi_2, oi_3, oi_4, oi_5, oi_6, oi_7, oi_8, oi_9]; try dsimp only
      unfold Qj_strength
      try dsimp only
      exact ⟨_, rfl, rfl, rfl, rfl⟩
    refine ⟨fun h36 => ?_, fun h36 => ?_⟩
    · refine hB _ _ _ _ _ _ _ _ (fun m37 hm37 => ?_)
      dsimp only [jgo, jwp, jst, jct, rfd, Bstrength, Nat.beq, lv_args, rlk, rs1, rs2, rdl, rky, rcd, rno, rsw, Value.category, List.filter, List.take, List.drop, List.reverse, List.reverseAux, List.cons_append, List.nil_append, Option.toList, Int.toNat, Int.reduceToNat, if_pos, if_neg, reduceIte, ↓reduceIte, Nat.reduceAdd, Nat.reduceEqDiff, Nat.reduceBEq, beq_self_eq_true, Bool.not_true, Bool.not_false, Bool.and_true, Bool.and_false, Bool.true_and, Bool.false_and, gI_sI, gI_sL, gI_sA, gI_sM, gL_sI, gL_sL, gL_sA, gL_sM, aI_sI, aI_sL, aI_sA, aI_sM, aL_sI, aL_sL, aL_sA, aL_sM, Bstrength_0, Bstrength_164, Bstrength_166, Bstrength_168, Bstrength_170, Bstrength_172, Bstrength_174, Bstrength_177, Bstrength_180, Bstrength_183, Bstrength_186, Bstrength_189, oi_0, oi_1, oi_10, oi_2, oi_3, oi_4, oi_5, oi_6, oi_7, oi_8, oi_9]; try dsimp only
      unfold Qj_strength
      try dsimp only
      exact ⟨_, rfl, rfl, rfl, rfl⟩
    refine ⟨fun h38 => ?_, fun h38 => ?_⟩
    · refine hB _ _ _ _ _ _ _ _ (fun m39 hm39 => ?_)
      dsimp only [jgo, jwp, jst, jct, rfd, Bstrength, Nat.beq, lv_args, rlk, rs1, rs2, rdl, rky, rcd, rno, rsw, Value.category, List.filter, List.take, List.drop, List.reverse, List.reverseAux, List.cons_append, List.nil_append, Option.toList, Int.toNat, Int.reduceToNat, if_pos, if_neg, reduceIte, ↓reduceIte, Nat.reduceAdd, Nat.reduceEqDiff, Nat.reduceBEq, beq_self_eq_true, Bool.not_true, Bool.not_false, Bool.and_true, Bool.and_false, Bool.true_and, Bool.false_and, gI_sI, gI_sL, gI_sA, gI_sM, gL_sI, gL_sL, gL_sA, gL_sM, aI_sI, aI_sL, aI_sA, aI_sM, aL_sI, aL_sL, aL_sA, aL_sM, Bstrength_0, Bstrength_164, Bstrength_166, Bstrength_168, Bstrength_170, Bstrength_172, Bstrength_174, Bstrength_177, Bstrength_180, Bstrength_183, Bstrength_186, Bstrength_189, oi_0, oi_1, oi_10, oi_2, oi_3, oi_4, oi_5, oi_6, oi_7, oi_8, oi_9]; try dsimp only
      unfold Qj_strength
      try dsimp only
      exact ⟨_, rfl, rfl, rfl, rfl⟩
    refine hB _ _ _ _ _ _ _ _ (fun m40 hm40 => ?_)
    dsimp only [jgo, jwp, jst, jct, rfd, Bstrength, Nat.beq, lv_args, rlk, rs1, rs2, rdl, rky, rcd, rno, rsw, Value.category, List.filter, List.take, List.drop, List.reverse, List.reverseAux, List.cons_append, List.nil_append, Option.toList, Int.toNat, Int.reduceToNat, if_pos, if_neg, reduceIte, ↓reduceIte, Nat.reduceAdd, Nat.reduceEqDiff, Nat.reduceBEq, beq_self_eq_true, Bool.not_true, Bool.not_false, Bool.and_true, Bool.and_false, Bool.true_and, Bool.false_and, gI_sI, gI_sL, gI_sA, gI_sM, gL_sI, gL_sL, gL_sA, gL_sM, aI_sI, aI_sL, aI_sA, aI_sM, aL_sI, aL_sL, aL_sA, aL_sM, Bstrength_0, Bstrength_164, Bstrength_166, Bstrength_168, Bstrength_170, Bstrength_172, Bstrength_174, Bstrength_177, Bstrength_180, Bstrength_183, Bstrength_186, Bstrength_189, oi_0, oi_1, oi_10, oi_2, oi_3, oi_4, oi_5, oi_6, oi_7, oi_8, oi_9]; try dsimp only
    unfold Qj_strength
    try dsimp only
    exact ⟨_, rfl, rfl, rfl, rfl⟩
  next => exact hP.elim
def Pj_isType : JPr := fun A1 A2 σ ρ => match A1, A2 with
  | [.int t], [.int t'] => Rj 0 σ ρ ∧ t = t' ∧ t.toNatClampNeg < (gI σ 2).toNatClampNeg
  | _, _ => False
def Qj_isType : JQr := fun A1 A2 σ ρ w τ w' τ' => match A1, A2 with
  | [.int t], [.int t'] => ∃ b : Int32, w = some (.int b) ∧ w' = some (.int b) ∧ σ = τ ∧ ρ = τ' ∧ (b = 0 ∨ (b = 1 ∧ aI σ 3 t.toNatClampNeg = 4))
  | _, _ => False
set_option maxRecDepth 100000 in
set_option maxHeartbeats 4000000 in
theorem j_isType : JMet 23 Pj_isType Qj_isType := by
  refine JMet.by BisType [] rfl jc0 ?_
  intro A1 A2 σ ρ hP K hB hW
  unfold Pj_isType at hP
  split at hP
  next t t' =>
    obtain ⟨hR, rfl, hx⟩ := hP
    intro n0
    refine hB _ _ _ _ _ _ _ _ (fun m1 hm1 => ?_)
    dsimp only [jgo, jwp, jst, jct, rfd, BisType, Nat.beq, lv_args, rlk, rs1, rs2, rdl, rky, rcd, rno, rsw, Value.category, List.filter, List.take, List.drop, List.reverse, List.reverseAux, List.cons_append, List.nil_append, Option.toList, Int.toNat, Int.reduceToNat, if_pos, if_neg, reduceIte, ↓reduceIte, Nat.reduceAdd, Nat.reduceEqDiff, Nat.reduceBEq, beq_self_eq_true, Bool.not_true, Bool.not_false, Bool.and_true, Bool.and_false, Bool.true_and, Bool.false_and, gI_sI, gI_sL, gI_sA, gI_sM, gL_sI, gL_sL, gL_sA, gL_sM, aI_sI, aI_sL, aI_sA, aI_sM, aL_sI, aL_sL, aL_sA, aL_sM, BisType_0, BisType_10, BisType_20, BisType_24, BisType_25, oi_0, oi_1, oi_4]; try dsimp only
    try simp only [hR.e2, hR.e14, hR.e15, hR.e17, hR.e18, hR.e36, hR.e42, hR.e49, hR.a3, hR.a6, hR.a51, hR.a19, hR.hp, hx]
    intro p2 q2
    try simp only [hR.e2, hR.e14, hR.e15, hR.e17, hR.e18, hR.e36, hR.e42, hR.e49, hR.a3, hR.a6, hR.a51, hR.a19, hR.hp, hx]
    refine ⟨fun h3 => ⟨(by exact h3), ?_⟩, fun h3 => ⟨(by exact h3), ?_⟩⟩
    · refine hB _ _ _ _ _ _ _ _ (fun m4 hm4 => ?_)
      dsimp only [jgo, jwp, jst, jct, rfd, BisType, Nat.beq, lv_args, rlk, rs1, rs2, rdl, rky, rcd, rno, rsw, Value.category, List.filter, List.take, List.drop, List.reverse, List.reverseAux, List.cons_append, List.nil_append, Option.toList, Int.toNat, Int.reduceToNat, if_pos, if_neg, reduceIte, ↓reduceIte, Nat.reduceAdd, Nat.reduceEqDiff, Nat.reduceBEq, beq_self_eq_true, Bool.not_true, Bool.not_false, Bool.and_true, Bool.and_false, Bool.true_and, Bool.false_and, gI_sI, gI_sL, gI_sA, gI_sM, gL_sI, gL_sL, gL_sA, gL_sM, aI_sI, aI_sL, aI_sA, aI_sM, aL_sI, aL_sL, aL_sA, aL_sM, BisType_0, BisType_10, BisType_20, BisType_24, BisType_25, oi_0, oi_1, oi_4]; try dsimp only
      try simp only [hR.e2, hR.e14, hR.e15, hR.e17, hR.e18, hR.e36, hR.e42, hR.e49, hR.a3, hR.a6, hR.a51, hR.a19, hR.hp, hx]
      refine hB _ _ _ _ _ _ _ _ (fun m5 hm5 => ?_)
      dsimp only [jgo, jwp, jst, jct, rfd, BisType, Nat.beq, lv_args, rlk, rs1, rs2, rdl, rky, rcd, rno, rsw, Value.category, List.filter, List.take, List.drop, List.reverse, List.reverseAux, List.cons_append, List.nil_append, Option.toList, Int.toNat, Int.reduceToNat, if_pos, if_neg, reduceIte, ↓reduceIte, Nat.reduceAdd, Nat.reduceEqDiff, Nat.reduceBEq, beq_self_eq_true, Bool.not_true, Bool.not_false, Bool.and_true, Bool.and_false, Bool.true_and, Bool.false_and, gI_sI, gI_sL, gI_sA, gI_sM, gL_sI, gL_sL, gL_sA, gL_sM, aI_sI, aI_sL, aI_sA, aI_sM, aL_sI, aL_sL, aL_sA, aL_sM, BisType_0, BisType_10, BisType_20, BisType_24, BisType_25, oi_0, oi_1, oi_4]; try dsimp only
      try simp only [hR.e2, hR.e14, hR.e15, hR.e17, hR.e18, hR.e36, hR.e42, hR.e49, hR.a3, hR.a6, hR.a51, hR.a19, hR.hp, hx]
      unfold Qj_isType
      try dsimp only
      exact ⟨_, rfl, rfl, rfl, rfl, Or.inl rfl⟩
    · refine hB _ _ _ _ _ _ _ _ (fun m6 hm6 => ?_)
      dsimp only [jgo, jwp, jst, jct, rfd, BisType, Nat.beq, lv_args, rlk, rs1, rs2, rdl, rky, rcd, rno, rsw, Value.category, List.filter, List.take, List.drop, List.reverse, List.reverseAux, List.cons_append, List.nil_append, Option.toList, Int.toNat, Int.reduceToNat, if_pos, if_neg, reduceIte, ↓reduceIte, Nat.reduceAdd, Nat.reduceEqDiff, Nat.reduceBEq, beq_self_eq_true, Bool.not_true, Bool.not_false, Bool.and_true, Bool.and_false, Bool.true_and, Bool.false_and, gI_sI, gI_sL, gI_sA, gI_sM, gL_sI, gL_sL, gL_sA, gL_sM, aI_sI, aI_sL, aI_sA, aI_sM, aL_sI, aL_sL, aL_sA, aL_sM, BisType_0, BisType_10, BisType_20, BisType_24, BisType_25, oi_0, oi_1, oi_4]; try dsimp only
      try simp only [hR.e2, hR.e14, hR.e15, hR.e17, hR.e18, hR.e36, hR.e42, hR.e49, hR.a3, hR.a6, hR.a51, hR.a19, hR.hp, hx]
      intro p7 q7
      try simp only [hR.e2, hR.e14, hR.e15, hR.e17, hR.e18, hR.e36, hR.e42, hR.e49, hR.a3, hR.a6, hR.a51, hR.a19, hR.hp, hx]
      refine ⟨fun h8 => ⟨(by exact h8), ?_⟩, fun h8 => ⟨(by exact h8), ?_⟩⟩
      · refine hB _ _ _ _ _ _ _ _ (fun m9 hm9 => ?_)
        dsimp only [jgo, jwp, jst, jct, rfd, BisType, Nat.beq, lv_args, rlk, rs1, rs2, rdl, rky, rcd, rno, rsw, Value.category, List.filter, List.take, List.drop, List.reverse, List.reverseAux, List.cons_append, List.nil_append, Option.toList, Int.toNat, Int.reduceToNat, if_pos, if_neg, reduceIte, ↓reduceIte, Nat.reduceAdd, Nat.reduceEqDiff, Nat.reduceBEq, beq_self_eq_true, Bool.not_true, Bool.not_false, Bool.and_true, Bool.and_false, Bool.true_and, Bool.false_and, gI_sI, gI_sL, gI_sA, gI_sM, gL_sI, gL_sL, gL_sA, gL_sM, aI_sI, aI_sL, aI_sA, aI_sM, aL_sI, aL_sL, aL_sA, aL_sM, BisType_0, BisType_10, BisType_20, BisType_24, BisType_25, oi_0, oi_1, oi_4]; try dsimp only
        try simp only [hR.e2, hR.e14, hR.e15, hR.e17, hR.e18, hR.e36, hR.e42, hR.e49, hR.a3, hR.a6, hR.a51, hR.a19, hR.hp, hx]
        refine hB _ _ _ _ _ _ _ _ (fun m10 hm10 => ?_)
        dsimp only [jgo, jwp, jst, jct, rfd, BisType, Nat.beq, lv_args, rlk, rs1, rs2, rdl, rky, rcd, rno, rsw, Value.category, List.filter, List.take, List.drop, List.reverse, List.reverseAux, List.cons_append, List.nil_append, Option.toList, Int.toNat, Int.reduceToNat, if_pos, if_neg, reduceIte, ↓reduceIte, Nat.reduceAdd, Nat.reduceEqDiff, Nat.reduceBEq, beq_self_eq_true, Bool.not_true, Bool.not_false, Bool.and_true, Bool.and_false, Bool.true_and, Bool.false_and, gI_sI, gI_sL, gI_sA, gI_sM, gL_sI, gL_sL, gL_sA, gL_sM, aI_sI, aI_sL, aI_sA, aI_sM, aL_sI, aL_sL, aL_sA, aL_sM, BisType_0, BisType_10, BisType_20, BisType_24, BisType_25, oi_0, oi_1, oi_4]; try dsimp only
        try simp only [hR.e2, hR.e14, hR.e15, hR.e17, hR.e18, hR.e36, hR.e42, hR.e49, hR.a3, hR.a6, hR.a51, hR.a19, hR.hp, hx]
        unfold Qj_isType
        try dsimp only
        exact ⟨_, rfl, rfl, rfl, rfl, Or.inl rfl⟩
      · refine hB _ _ _ _ _ _ _ _ (fun m11 hm11 => ?_)
        dsimp only [jgo, jwp, jst, jct, rfd, BisType, Nat.beq, lv_args, rlk, rs1, rs2, rdl, rky, rcd, rno, rsw, Value.category, List.filter, List.take, List.drop, List.reverse, List.reverseAux, List.cons_append, List.nil_append, Option.toList, Int.toNat, Int.reduceToNat, if_pos, if_neg, reduceIte, ↓reduceIte, Nat.reduceAdd, Nat.reduceEqDiff, Nat.reduceBEq, beq_self_eq_true, Bool.not_true, Bool.not_false, Bool.and_true, Bool.and_false, Bool.true_and, Bool.false_and, gI_sI, gI_sL, gI_sA, gI_sM, gL_sI, gL_sL, gL_sA, gL_sM, aI_sI, aI_sL, aI_sA, aI_sM, aL_sI, aL_sL, aL_sA, aL_sM, BisType_0, BisType_10, BisType_20, BisType_24, BisType_25, oi_0, oi_1, oi_4]; try dsimp only
        try simp only [hR.e2, hR.e14, hR.e15, hR.e17, hR.e18, hR.e36, hR.e42, hR.e49, hR.a3, hR.a6, hR.a51, hR.a19, hR.hp, hx]
        refine hB _ _ _ _ _ _ _ _ (fun m12 hm12 => ?_)
        dsimp only [jgo, jwp, jst, jct, rfd, BisType, Nat.beq, lv_args, rlk, rs1, rs2, rdl, rky, rcd, rno, rsw, Value.category, List.filter, List.take, List.drop, List.reverse, List.reverseAux, List.cons_append, List.nil_append, Option.toList, Int.toNat, Int.reduceToNat, if_pos, if_neg, reduceIte, ↓reduceIte, Nat.reduceAdd, Nat.reduceEqDiff, Nat.reduceBEq, beq_self_eq_true, Bool.not_true, Bool.not_false, Bool.and_true, Bool.and_false, Bool.true_and, Bool.false_and, gI_sI, gI_sL, gI_sA, gI_sM, gL_sI, gL_sL, gL_sA, gL_sM, aI_sI, aI_sL, aI_sA, aI_sM, aL_sI, aL_sL, aL_sA, aL_sM, BisType_0, BisType_10, BisType_20, BisType_24, BisType_25, oi_0, oi_1, oi_4]; try dsimp only
        try simp only [hR.e2, hR.e14, hR.e15, hR.e17, hR.e18, hR.e36, hR.e42, hR.e49, hR.a3, hR.a6, hR.a51, hR.a19, hR.hp, hx]
        unfold Qj_isType
        try dsimp only
        exact ⟨_, rfl, rfl, rfl, rfl, Or.inr ⟨rfl, by lia⟩⟩
  next => exact hP.elim
def Pj_isSetAt : JPr := fun A1 A2 σ ρ => match A1, A2 with
  | [.int t], [.int t'] => Rj 0 σ ρ ∧ t = t' ∧ t.toNatClampNeg < (gI σ 2).toNatClampNeg
  | _, _ => False
def Qj_isSetAt : JQr := fun A1 A2 σ ρ w τ w' τ' => match A1, A2 with
  | [.int t], [.int t'] => ∃ b : Int32, w = some (.int b) ∧ w' = some (.int b) ∧ σ = τ ∧ ρ = τ' ∧ (b = 0 ∨ (b = 1 ∧ aI σ 3 t.toNatClampNeg = 5))
  | _, _ => False
set_option maxRecDepth 100000 in
set_option maxHeartbeats 4000000 in
theorem j_isSetAt : JMet 24 Pj_isSetAt Qj_isSetAt := by
  refine JMet.by BisSetAt [] rfl jc0 ?_
  intro A1 A2 σ ρ hP K hB hW
  unfold Pj_isSetAt at hP
  split at hP
  next t t' =>
    obtain ⟨hR, rfl, hx⟩ := hP
    intro n0
    refine hB _ _ _ _ _ _ _ _ (fun m1 hm1 => ?_)
    dsimp only [jgo, jwp, jst, jct, rfd, BisSetAt, Nat.beq, lv_args, rlk, rs1, rs2, rdl, rky, rcd, rno, rsw, Value.category, List.filter, List.take, List.drop, List.reverse, List.reverseAux, List.cons_append, List.nil_append, Option.toList, Int.toNat, Int.reduceToNat, if_pos, if_neg, reduceIte, ↓reduceIte, Nat.reduceAdd, Nat.reduceEqDiff, Nat.reduceBEq, beq_self_eq_true, Bool.not_true, Bool.not_false, Bool.and_true, Bool.and_false, Bool.true_and, Bool.false_and, gI_sI, gI_sL, gI_sA, gI_sM, gL_sI, gL_sL, gL_sA, gL_sM, aI_sI, aI_sL, aI_sA, aI_sM, aL_sI, aL_sL, aL_sA, aL_sM, BisSetAt_0, BisSetAt_10, BisSetAt_21, BisSetAt_33, BisSetAt_37, BisSetAt_38, oi_0, oi_1, oi_400, oi_5, oi_61]; try dsimp only
    try simp only [hR.e2, hR.e14, hR.e15, hR.e17, hR.e18, hR.e36, hR.e42, hR.e49, hR.a3, hR.a6, hR.a51, hR.a19, hR.hp, hx]
    intro p2 q2
    try simp only [hR.e2, hR.e14, hR.e15, hR.e17, hR.e18, hR.e36, hR.e42, hR.e49, hR.a3, hR.a6, hR.a51, hR.a19, hR.hp, hx]
    refine ⟨fun h3 => ⟨(by exact h3), ?_⟩, fun h3 => ⟨(by exact h3), ?_⟩⟩
    · refine hB _ _ _ _ _ _ _ _ (fun m4 hm4 => ?_)
      dsimp only [jgo, jwp, jst, jct, rfd, BisSetAt, Nat.beq, lv_args, rlk, rs1, rs2, rdl, rky, rcd, rno, rsw, Value.category, List.filter, List.take, List.drop, List.reverse, List.reverseAux, List.cons_append, List.nil_append, Option.toList, Int.toNat, Int.reduceToNat, if_pos, if_neg, reduceIte, ↓reduceIte, Nat.reduceAdd, Nat.reduceEqDiff, Nat.reduceBEq, beq_self_eq_true, Bool.not_true, Bool.not_false, Bool.and_true, Bool.and_false, Bool.true_and, Bool.false_and, gI_sI, gI_sL, gI_sA, gI_sM, gL_sI, gL_sL, gL_sA, gL_sM, aI_sI, aI_sL, aI_sA, aI_sM, aL_sI, aL_sL, aL_sA, aL_sM, BisSetAt_0, BisSetAt_10, BisSetAt_21, BisSetAt_33, BisSetAt_37, BisSetAt_38, oi_0, oi_1, oi_400, oi_5, oi_61]; try dsimp only
      try simp only [hR.e2, hR.e14, hR.e15, hR.e17, hR.e18, hR.e36, hR.e42, hR.e49, hR.a3, hR.a6, hR.a51, hR.a19, hR.hp, hx]
      refine hB _ _ _ _ _ _ _ _ (fun m5 hm5 => ?_)
      dsimp only [jgo, jwp, jst, jct, rfd, BisSetAt, Nat.beq, lv_args, rlk, rs1, rs2, rdl, rky, rcd, rno, rsw, Value.category, List.filter, List.take, List.drop, List.reverse, List.reverseAux, List.cons_append, List.nil_append, Option.toList, Int.toNat, Int.reduceToNat, if_pos, if_neg, reduceIte, ↓reduceIte, Nat.reduceAdd, Nat.reduceEqDiff, Nat.reduceBEq, beq_self_eq_true, Bool.not_true, Bool.not_false, Bool.and_true, Bool.and_false, Bool.true_and, Bool.false_and, gI_sI, gI_sL, gI_sA, gI_sM, gL_sI, gL_sL, gL_sA, gL_sM, aI_sI, aI_sL, aI_sA, aI_sM, aL_sI, aL_sL, aL_sA, aL_sM, BisSetAt_0, BisSetAt_10, BisSetAt_21, BisSetAt_33, BisSetAt_37, BisSetAt_38, oi_0, oi_1, oi_400, oi_5, oi_61]; try dsimp only
      try simp only [hR.e2, hR.e14, hR.e15, hR.e17, hR.e18, hR.e36, hR.e42, hR.e49, hR.a3, hR.a6, hR.a51, hR.a19, hR.hp, hx]
      unfold Qj_isSetAt
      try dsimp only
      exact ⟨_, rfl, rfl, rfl, rfl, Or.inl rfl⟩
    · refine hB _ _ _ _ _ _ _ _ (fun m6 hm6 => ?_)
      dsimp only [jgo, jwp, jst, jct, rfd, BisSetAt, Nat.beq, lv_args, rlk, rs1, rs2, rdl, rky, rcd, rno, rsw, Value.category, List.filter, List.take, List.drop, List.reverse, List.reverseAux, List.cons_append, List.nil_append, Option.toList, Int.toNat, Int.reduceToNat, if_pos, if_neg, reduceIte, ↓reduceIte, Nat.reduceAdd, Nat.reduceEqDiff, Nat.reduceBEq, beq_self_eq_true, Bool.not_true, Bool.not_false, Bool.and_true, Bool.and_false, Bool.true_and, Bool.false_and, gI_sI, gI_sL, gI_sA, gI_sM, gL_sI, gL_sL, gL_sA, gL_sM, aI_sI, aI_sL, aI_sA, aI_sM, aL_sI, aL_sL, aL_sA, aL_sM, BisSetAt_0, BisSetAt_10, BisSetAt_21, BisSetAt_33, BisSetAt_37, BisSetAt_38, oi_0, oi_1, oi_400, oi_5, oi_61]; try dsimp only
      try simp only [hR.e2, hR.e14, hR.e15, hR.e17, hR.e18, hR.e36, hR.e42, hR.e49, hR.a3, hR.a6, hR.a51, hR.a19, hR.hp, hx]
      intro p7 q7
      try simp only [hR.e2, hR.e14, hR.e15, hR.e17, hR.e18, hR.e36, hR.e42, hR.e49, hR.a3, hR.a6, hR.a51, hR.a19, hR.hp, hx]
      refine ⟨fun h8 => ⟨(by exact h8), ?_⟩, fun h8 => ⟨(by exact h8), ?_⟩⟩
      · refine hB _ _ _ _ _ _ _ _ (fun m9 hm9 => ?_)
        dsimp only [jgo, jwp, jst, jct, rfd, BisSetAt, Nat.beq, lv_args, rlk, rs1, rs2, rdl, rky, rcd, rno, rsw, Value.category, List.filter, List.take, List.drop, List.reverse, List.reverseAux, List.cons_append, List.nil_append, Option.toList, Int.toNat, Int.reduceToNat, if_pos, if_neg, reduceIte, ↓reduceIte, Nat.reduceAdd, Nat.reduceEqDiff, Nat.reduceBEq, beq_self_eq_true, Bool.not_true, Bool.not_false, Bool.and_true, Bool.and_false, Bool.true_and, Bool.false_and, gI_sI, gI_sL, gI_sA, gI_sM, gL_sI, gL_sL, gL_sA, gL_sM, aI_sI, aI_sL, aI_sA, aI_sM, aL_sI, aL_sL, aL_sA, aL_sM, BisSetAt_0, BisSetAt_10, BisSetAt_21, BisSetAt_33, BisSetAt_37, BisSetAt_38, oi_0, oi_1, oi_400, oi_5, oi_61]; try dsimp only
        try simp only [hR.e2, hR.e14, hR.e15, hR.e17, hR.e18, hR.e36, hR.e42, hR.e49, hR.a3, hR.a6, hR.a51, hR.a19, hR.hp, hx]
        refine hB _ _ _ _ _ _ _ _ (fun m10 hm10 => ?_)
        dsimp only [jgo, jwp, jst, jct, rfd, BisSetAt, Nat.beq, lv_args, rlk, rs1, rs2, rdl, rky, rcd, rno, rsw, Value.category, List.filter, List.take, List.drop, List.reverse, List.reverseAux, List.cons_append, List.nil_append, Option.toList, Int.toNat, Int.reduceToNat, if_pos, if_neg, reduceIte, ↓reduceIte, Nat.reduceAdd, Nat.reduceEqDiff, Nat.reduceBEq, beq_self_eq_true, Bool.not_true, Bool.not_false, Bool.and_true, Bool.and_false, Bool.true_and, Bool.false_and, gI_sI, gI_sL, gI_sA, gI_sM, gL_sI, gL_sL, gL_sA, gL_sM, aI_sI, aI_sL, aI_sA, aI_sM, aL_sI, aL_sL, aL_sA, aL_sM, BisSetAt_0, BisSetAt_10, BisSetAt_21, BisSetAt_33, BisSetAt_37, BisSetAt_38, oi_0, oi_1, oi_400, oi_5, oi_61]; try dsimp only
        try simp only [hR.e2, hR.e14, hR.e15, hR.e17, hR.e18, hR.e36, hR.e42, hR.e49, hR.a3, hR.a6, hR.a51, hR.a19, hR.hp, hx]
        unfold Qj_isSetAt
        try dsimp only
        exact ⟨_, rfl, rfl, rfl, rfl, Or.inr ⟨rfl, by lia⟩⟩
      · refine hB _ _ _ _ _ _ _ _ (fun m11 hm11 => ?_)
        dsimp only [jgo, jwp, jst, jct, rfd, BisSetAt, Nat.beq, lv_args, rlk, rs1, rs2, rdl, rky, rcd, rno, rsw, Value.category, List.filter, List.take, List.drop, List.reverse, List.reverseAux, List.cons_append, List.nil_append, Option.toList, Int.toNat, Int.reduceToNat, if_pos, if_neg, reduceIte, ↓reduceIte, Nat.reduceAdd, Nat.reduceEqDiff, Nat.reduceBEq, beq_self_eq_true, Bool.not_true, Bool.not_false, Bool.and_true, Bool.and_false, Bool.true_and, Bool.false_and, gI_sI, gI_sL, gI_sA, gI_sM, gL_sI, gL_sL, gL_sA, gL_sM, aI_sI, aI_sL, aI_sA, aI_sM, aL_sI, aL_sL, aL_sA, aL_sM, BisSetAt_0, BisSetAt_10, BisSetAt_21, BisSetAt_33, BisSetAt_37, BisSetAt_38, oi_0, oi_1, oi_400, oi_5, oi_61]; try dsimp only
        try simp only [hR.e2, hR.e14, hR.e15, hR.e17, hR.e18, hR.e36, hR.e42, hR.e49, hR.a3, hR.a6, hR.a51, hR.a19, hR.hp, hx]
        intro p12 q12
        try simp only [hR.e2, hR.e14, hR.e15, hR.e17, hR.e18, hR.e36, hR.e42, hR.e49, hR.a3, hR.a6, hR.a51, hR.a19, hR.hp, hx]
        refine ⟨fun h13 => ⟨(by exact h13), ?_⟩, fun h13 => ⟨(by exact h13), ?_⟩⟩
        · refine hB _ _ _ _ _ _ _ _ (fun m14 hm14 => ?_)
          dsimp only [jgo, jwp, jst, jct, rfd, BisSetAt, Nat.beq, lv_args, rlk, rs1, rs2, rdl, rky, rcd, rno, rsw, Value.category, List.filter, List.take, List.drop, List.reverse, List.reverseAux, List.cons_append, List.nil_append, Option.toList, Int.toNat, Int.reduceToNat, if_pos, if_neg, reduceIte, ↓reduceIte, Nat.reduceAdd, Nat.reduceEqDiff, Nat.reduceBEq, beq_self_eq_true, Bool.not_true, Bool.not_false, Bool.and_true, Bool.and_false, Bool.true_and, Bool.false_and, gI_sI, gI_sL, gI_sA, gI_sM, gL_sI, gL_sL, gL_sA, gL_sM, aI_sI, aI_sL, aI_sA, aI_sM, aL_sI, aL_sL, aL_sA, aL_sM, BisSetAt_0, BisSetAt_10, BisSetAt_21, BisSetAt_33, BisSetAt_37, BisSetAt_38, oi_0, oi_1, oi_400, oi_5, oi_61]; try dsimp only
          try simp only [hR.e2, hR.e14, hR.e15, hR.e17, hR.e18, hR.e36, hR.e42, hR.e49, hR.a3, hR.a6, hR.a51, hR.a19, hR.hp, hx]
          refine hB _ _ _ _ _ _ _ _ (fun m15 hm15 => ?_)
          dsimp only [jgo, jwp, jst, jct, rfd, BisSetAt, Nat.beq, lv_args, rlk, rs1, rs2, rdl, rky, rcd, rno, rsw, Value.category, List.filter, List.take, List.drop, List.reverse, List.reverseAux, List.cons_append, List.nil_append, Option.toList, Int.toNat, Int.reduceToNat, if_pos, if_neg, reduceIte, ↓reduceIte, Nat.reduceAdd, Nat.reduceEqDiff, Nat.reduceBEq, beq_self_eq_true, Bool.not_true, Bool.not_false, Bool.and_true, Bool.and_false, Bool.true_and, Bool.false_and, gI_sI, gI_sL, gI_sA, gI_sM, gL_sI, gL_sL, gL_sA, gL_sM, aI_sI, aI_sL, aI_sA, aI_sM, aL_sI, aL_sL, aL_sA, aL_sM, BisSetAt_0, BisSetAt_10, BisSetAt_21, BisSetAt_33, BisSetAt_37, BisSetAt_38, oi_0, oi_1, oi_400, oi_5, oi_61]; try dsimp only
          try simp only [hR.e2, hR.e14, hR.e15, hR.e17, hR.e18, hR.e36, hR.e42, hR.e49, hR.a3, hR.a6, hR.a51, hR.a19, hR.hp, hx]
          unfold Qj_isSetAt
          try dsimp only
          exact ⟨_, rfl, rfl, rfl, rfl, Or.inl rfl⟩
        · refine hB _ _ _ _ _ _ _ _ (fun m16 hm16 => ?_)
          dsimp only [jgo, jwp, jst, jct, rfd, BisSetAt, Nat.beq, lv_args, rlk, rs1, rs2, rdl, rky, rcd, rno, rsw, Value.category, List.filter, List.take, List.drop, List.reverse, List.reverseAux, List.cons_append, List.nil_append, Option.toList, Int.toNat, Int.reduceToNat, if_pos, if_neg, reduceIte, ↓reduceIte, Nat.reduceAdd, Nat.reduceEqDiff, Nat.reduceBEq, beq_self_eq_true, Bool.not_true, Bool.not_false, Bool.and_true, Bool.and_false, Bool.true_and, Bool.false_and, gI_sI, gI_sL, gI_sA, gI_sM, gL_sI, gL_sL, gL_sA, gL_sM, aI_sI, aI_sL, aI_sA, aI_sM, aL_sI, aL_sL, aL_sA, aL_sM, BisSetAt_0, BisSetAt_10, BisSetAt_21, BisSetAt_33, BisSetAt_37, BisSetAt_38, oi_0, oi_1, oi_400, oi_5, oi_61]; try dsimp only
          try simp only [hR.e2, hR.e14, hR.e15, hR.e17, hR.e18, hR.e36, hR.e42, hR.e49, hR.a3, hR.a6, hR.a51, hR.a19, hR.hp, hx]
          refine hB _ _ _ _ _ _ _ _ (fun m17 hm17 => ?_)
          dsimp only [jgo, jwp, jst, jct, rfd, BisSetAt, Nat.beq, lv_args, rlk, rs1, rs2, rdl, rky, rcd, rno, rsw, Value.category, List.filter, List.take, List.drop, List.reverse, List.reverseAux, List.cons_append, List.nil_append, Option.toList, Int.toNat, Int.reduceToNat, if_pos, if_neg, reduceIte, ↓reduceIte, Nat.reduceAdd, Nat.reduceEqDiff, Nat.reduceBEq, beq_self_eq_true, Bool.not_true, Bool.not_false, Bool.and_true, Bool.and_false, Bool.true_and, Bool.false_and, gI_sI, gI_sL, gI_sA, gI_sM, gL_sI, gL_sL, gL_sA, gL_sM, aI_sI, aI_sL, aI_sA, aI_sM, aL_sI, aL_sL, aL_sA, aL_sM, BisSetAt_0, BisSetAt_10, BisSetAt_21, BisSetAt_33, BisSetAt_37, BisSetAt_38, oi_0, oi_1, oi_400, oi_5, oi_61]; try dsimp only
          try simp only [hR.e2, hR.e14, hR.e15, hR.e17, hR.e18, hR.e36, hR.e42, hR.e49, hR.a3, hR.a6, hR.a51, hR.a19, hR.hp, hx]
          unfold Qj_isSetAt
          try dsimp only
          exact ⟨_, rfl, rfl, rfl, rfl, Or.inr ⟨rfl, by lia⟩⟩
  next => exact hP.elim
def Pj_isTold : JPr := fun A1 A2 σ ρ => match A1, A2 with
  | [], [] => Rj 0 σ ρ
  | _, _ => False
def Qj_isTold : JQr := fun A1 A2 σ ρ w τ w' τ' => match A1, A2 with
  | [], [] => ∃ b : Int32, w = some (.int b) ∧ w' = some (.int b) ∧ σ = τ ∧ ρ = τ' ∧ (b = 0 ∨ (b = 1 ∧ aI σ 3 (gI σ 14).toNatClampNeg = 4))
  | _, _ => False
set_option maxRecDepth 100000 in
set_option maxHeartbeats 4000000 in
theorem j_isTold : JMet 46 Pj_isTold Qj_isTold := by
  refine JMet.by BisTold [(23, Pj_isType, Qj_isType), (15, Pj_isWord, Qj_isWord)] rfl (jcc j_isType (jcc j_isWord jc0)) ?_
  intro A1 A2 σ ρ hP K hB hW
  unfold Pj_isTold at hP
  split at hP
  next =>
    have hR := hP
    intro n0
    refine hB _ _ _ _ _ _ _ _ (fun m1 hm1 => ?_)
    dsimp only [jgo, jwp, jst, jct, rfd, BisTold, Nat.beq, lv_args, rlk, rs1, rs2, rdl, rky, rcd, rno, rsw, Value.category, List.filter, List.take, List.drop, List.reverse, List.reverseAux, List.cons_append, List.nil_append, Option.toList, Int.toNat, Int.reduceToNat, if_pos, if_neg, reduceIte, ↓reduceIte, Nat.reduceAdd, Nat.reduceEqDiff, Nat.reduceBEq, beq_self_eq_true, Bool.not_true, Bool.not_false, Bool.and_true, Bool.and_false, Bool.true_and, Bool.false_and, gI_sI, gI_sL, gI_sA, gI_sM, gL_sI, gL_sL, gL_sA, gL_sM, aI_sI, aI_sL, aI_sA, aI_sM, aL_sI, aL_sL, aL_sA, aL_sM, BisTold_0, BisTold_9, BisTold_20, BisTold_24, BisTold_25, oi_0, oi_1, oi_21, Pj_isType, Pj_isWord]; try dsimp only
    try simp only [hR.e2, hR.e14, hR.e15, hR.e17, hR.e18, hR.e36, hR.e42, hR.e49, hR.a3, hR.a6, hR.a51, hR.a19, hR.hp]
    refine ⟨⟨(Rj.w (md := 0) (by (repeat (first | exact hR | refine Rj.i ?_ rfl | refine Rj.a ?_ rfl | refine Rj.m ?_ | refine Rj.s ?_ (by decide) | refine Rj.o1 ?_ (by first | lia | (dsimp only [Nat.beq, gI_sI, gI_sL, gI_sA, gI_sM, gL_sI, gL_sL, gL_sA, gL_sM, aI_sI, aI_sL, aI_sA, aI_sM, aL_sI, aL_sL, aL_sA, aL_sM]; lia)) | refine Rj.o2 ?_ | refine Rj.f1 ?_ (by first | lia | (dsimp only [Nat.beq, gI_sI, gI_sL, gI_sA, gI_sM, gL_sI, gL_sL, gL_sA, gL_sM, aI_sI, aI_sL, aI_sA, aI_sM, aL_sI, aL_sL, aL_sA, aL_sM]; lia)) | refine Rj.f2 ?_ | refine Rj.fs ?_)))), (by first | exact True.intro | rfl)⟩, fun w2 τ2 w2' τ2' hq2 => ?_⟩
    obtain ⟨b2, rfl, rfl, rfl, rfl, hb2⟩ := hq2
    rcases hb2 with rfl | ⟨rfl, hf2⟩
    · dsimp only [Option.toList, List.cons_append, List.nil_append, Nat.beq, gI_sI, gI_sL, gI_sA, gI_sM, gL_sI, gL_sL, gL_sA, gL_sM, aI_sI, aI_sL, aI_sA, aI_sM, aL_sI, aL_sL, aL_sA, aL_sM]
      try simp only [hR.e2, hR.e14, hR.e15, hR.e17, hR.e18, hR.e36, hR.e42, hR.e49, hR.a3, hR.a6, hR.a51, hR.a19, hR.hp]
      refine ⟨fun h3 => absurd h3 (by decide), fun h3 => ⟨(by exact h3), ?_⟩⟩
      clear h3
      refine hB _ _ _ _ _ _ _ _ (fun m4 hm4 => ?_)
      dsimp only [jgo, jwp, jst, jct, rfd, BisTold, Nat.beq, lv_args, rlk, rs1, rs2, rdl, rky, rcd, rno, rsw, Value.category, List.filter, List.take, List.drop, List.reverse, List.reverseAux, List.cons_append, List.nil_append, Option.toList, Int.toNat, Int.reduceToNat, if_pos, if_neg, reduceIte, ↓reduceIte, Nat.reduceAdd, Nat.reduceEqDiff, Nat.reduceBEq, beq_self_eq_true, Bool.not_true, Bool.not_false, Bool.and_true, Bool.and_false, Bool.true_and, Bool.false_and, gI_sI, gI_sL, gI_sA, gI_sM, gL_sI, gL_sL, gL_sA, gL_sM, aI_sI, aI_sL, aI_sA, aI_sM, aL_sI, aL_sL, aL_sA, aL_sM, BisTold_0, BisTold_9, BisTold_20, BisTold_24, BisTold_25, oi_0, oi_1, oi_21, Pj_isType, Pj_isWord]; try dsimp only
      try simp only [hR.e2, hR.e14, hR.e15, hR.e17, hR.e18, hR.e36, hR.e42, hR.e49, hR.a3, hR.a6, hR.a51, hR.a19, hR.hp]
      refine ⟨⟨(Rj.w (md := 0) (by (repeat (first | exact hR | refine Rj.i ?_ rfl | refine Rj.a ?_ rfl | refine Rj.m ?_ | refine Rj.s ?_ (by decide) | refine Rj.o1 ?_ (by first | lia | (dsimp only [Nat.beq, gI_sI, gI_sL, gI_sA, gI_sM, gL_sI, gL_sL, gL_sA, gL_sM, aI_sI, aI_sL, aI_sA, aI_sM, aL_sI, aL_sL, aL_sA, aL_sM]; lia)) | refine Rj.o2 ?_ | refine Rj.f1 ?_ (by first | lia | (dsimp only [Nat.beq, gI_sI, gI_sL, gI_sA, gI_sM, gL_sI, gL_sL, gL_sA, gL_sM, aI_sI, aI_sL, aI_sA, aI_sM, aL_sI, aL_sL, aL_sA, aL_sM]; lia)) | refine Rj.f2 ?_ | refine Rj.fs ?_)))), (by first | exact True.intro | rfl), (by first | exact hR.hp | trivial)⟩, fun w5 τ5 w5' τ5' hq5 => ?_⟩
      obtain ⟨b5, rfl, rfl, rfl, rfl, hb5⟩ := hq5
      rcases hb5 with rfl | ⟨rfl, hf5⟩
      · dsimp only [Option.toList, List.cons_append, List.nil_append, Nat.beq, gI_sI, gI_sL, gI_sA, gI_sM, gL_sI, gL_sL, gL_sA, gL_sM, aI_sI, aI_sL, aI_sA, aI_sM, aL_sI, aL_sL, aL_sA, aL_sM]
        try simp only [hR.e2, hR.e14, hR.e15, hR.e17, hR.e18, hR.e36, hR.e42, hR.e49, hR.a3, hR.a6, hR.a51, hR.a19, hR.hp]
        refine ⟨fun h6 => ⟨(by exact h6), ?_⟩, fun h6 => absurd h6 (by decide)⟩
        clear h6
        refine hB _ _ _ _ _ _ _ _ (fun m7 hm7 => ?_)
        dsimp only [jgo, jwp, jst, jct, rfd, BisTold, Nat.beq, lv_args, rlk, rs1, rs2, rdl, rky, rcd, rno, rsw, Value.category, List.filter, List.take, List.drop, List.reverse, List.reverseAux, List.cons_append, List.nil_append, Option.toList, Int.toNat, Int.reduceToNat, if_pos, if_neg, reduceIte, ↓reduceIte, Nat.reduceAdd, Nat.reduceEqDiff, Nat.reduceBEq, beq_self_eq_true, Bool.not_true, Bool.not_false, Bool.and_true, Bool.and_false, Bool.true_and, Bool.false_and, gI_sI, gI_sL, gI_sA, gI_sM, gL_sI, gL_sL, gL_sA, gL_sM, aI_sI, aI_sL, aI_sA, aI_sM, aL_sI, aL_sL, aL_sA, aL_sM, BisTold_0, BisTold_9, BisTold_20, BisTold_24, BisTold_25, oi_0, oi_1, oi_21, Pj_isType, Pj_isWord]; try dsimp only
        try simp only [hR.e2, hR.e14, hR.e15, hR.e17, hR.e18, hR.e36, hR.e42, hR.e49, hR.a3, hR.a6, hR.a51, hR.a19, hR.hp]
        refine hB _ _ _ _ _ _ _ _ (fun m8 hm8 => ?_)
        dsimp only [jgo, jwp, jst, jct, rfd, BisTold, Nat.beq, lv_args, rlk, rs1, rs2, rdl, rky, rcd, rno, rsw, Value.category, List.filter, List.take, List.drop, List.reverse, List.reverseAux, List.cons_append, List.nil_append, Option.toList, Int.toNat, Int.reduceToNat, if_pos, if_neg, reduceIte, ↓reduceIte, Nat.reduceAdd, Nat.reduceEqDiff, Nat.reduceBEq, beq_self_eq_true, Bool.not_true, Bool.not_false, Bool.and_true, Bool.and_false, Bool.true_and, Bool.false_and, gI_sI, gI_sL, gI_sA, gI_sM, gL_sI, gL_sL, gL_sA, gL_sM, aI_sI, aI_sL, aI_sA, aI_sM, aL_sI, aL_sL, aL_sA, aL_sM, BisTold_0, BisTold_9, BisTold_20, BisTold_24, BisTold_25, oi_0, oi_1, oi_21, Pj_isType, Pj_isWord]; try dsimp only
        try simp only [hR.e2, hR.e14, hR.e15, hR.e17, hR.e18, hR.e36, hR.e42, hR.e49, hR.a3, hR.a6, hR.a51, hR.a19, hR.hp]
        unfold Qj_isTold
        try dsimp only
        exact ⟨_, rfl, rfl, rfl, rfl, Or.inl rfl⟩
      · dsimp only [Option.toList, List.cons_append, List.nil_append, Nat.beq, gI_sI, gI_sL, gI_sA, gI_sM, gL_sI, gL_sL, gL_sA, gL_sM, aI_sI, aI_sL, aI_sA, aI_sM, aL_sI, aL_sL, aL_sA, aL_sM]
        try dsimp only [Nat.beq, gI_sI, gI_sL, gI_sA, gI_sM, gL_sI, gL_sL, gL_sA, gL_sM, aI_sI, aI_sL, aI_sA, aI_sM, aL_sI, aL_sL, aL_sA, aL_sM] at hf5
        try simp only [hR.e2, hR.e14, hR.e15, hR.e17, hR.e18, hR.e36, hR.e42, hR.e49, hR.a3, hR.a6, hR.a51, hR.a19, hR.hp]
        refine ⟨fun h9 => absurd h9 (by decide), fun h9 => ⟨(by exact h9), ?_⟩⟩
        clear h9
        refine hB _ _ _ _ _ _ _ _ (fun m10 hm10 => ?_)
        dsimp only [jgo, jwp, jst, jct, rfd, BisTold, Nat.beq, lv_args, rlk, rs1, rs2, rdl, rky, rcd, rno, rsw, Value.category, List.filter, List.take, List.drop, List.reverse, List.reverseAux, List.cons_append, List.nil_append, Option.toList, Int.toNat, Int.reduceToNat, if_pos, if_neg, reduceIte, ↓reduceIte, Nat.reduceAdd, Nat.reduceEqDiff, Nat.reduceBEq, beq_self_eq_true, Bool.not_true, Bool.not_false, Bool.and_true, Bool.and_false, Bool.true_and, Bool.false_and, gI_sI, gI_sL, gI_sA, gI_sM, gL_sI, gL_sL, gL_sA, gL_sM, aI_sI, aI_sL, aI_sA, aI_sM, aL_sI, aL_sL, aL_sA, aL_sM, BisTold_0, BisTold_9, BisTold_20, BisTold_24, BisTold_25, oi_0, oi_1, oi_21, Pj_isType, Pj_isWord]; try dsimp only
        try simp only [hR.e2, hR.e14, hR.e15, hR.e17, hR.e18, hR.e36, hR.e42, hR.e49, hR.a3, hR.a6, hR.a51, hR.a19, hR.hp]
        refine hB _ _ _ _ _ _ _ _ (fun m11 hm11 => ?_)
        dsimp only [jgo, jwp, jst, jct, rfd, BisTold, Nat.beq, lv_args, rlk, rs1, rs2, rdl, rky, rcd, rno, rsw, Value.category, List.filter, List.take, List.drop, List.reverse, List.reverseAux, List.cons_append, List.nil_append, Option.toList, Int.toNat, Int.reduceToNat, if_pos, if_neg, reduceIte, ↓reduceIte, Nat.reduceAdd, Nat.reduceEqDiff, Nat.reduceBEq, beq_self_eq_true, Bool.not_true, Bool.not_false, Bool.and_true, Bool.and_false, Bool.true_and, Bool.false_and, gI_sI, gI_sL, gI_sA, gI_sM, gL_sI, gL_sL, gL_sA, gL_sM, aI_sI, aI_sL, aI_sA, aI_sM, aL_sI, aL_sL, aL_sA, aL_sM, BisTold_0, BisTold_9, BisTold_20, BisTold_24, BisTold_25, oi_0, oi_1, oi_21, Pj_isType, Pj_isWord]; try dsimp only
        try simp only [hR.e2, hR.e14, hR.e15, hR.e17, hR.e18, hR.e36, hR.e42, hR.e49, hR.a3, hR.a6, hR.a51, hR.a19, hR.hp]
        unfold Qj_isTold
        try dsimp only
        exact ⟨_, rfl, rfl, rfl, rfl, Or.inr ⟨rfl, by lia⟩⟩
    · dsimp only [Option.toList, List.cons_append, List.nil_append, Nat.beq, gI_sI, gI_sL, gI_sA, gI_sM, gL_sI, gL_sL, gL_sA, gL_sM, aI_sI, aI_sL, aI_sA, aI_sM, aL_sI, aL_sL, aL_sA, aL_sM]
      try dsimp only [Nat.beq, gI_sI, gI_sL, gI_sA, gI_sM, gL_sI, gL_sL, gL_sA, gL_sM, aI_sI, aI_sL, aI_sA, aI_sM, aL_sI, aL_sL, aL_sA, aL_sM] at hf2
      try simp only [hR.e2, hR.e14, hR.e15, hR.e17, hR.e18, hR.e36, hR.e42, hR.e49, hR.a3, hR.a6, hR.a51, hR.a19, hR.hp]
      refine ⟨fun h12 => ⟨(by exact h12), ?_⟩, fun h12 => absurd h12 (by decide)⟩
      clear h12
      refine hB _ _ _ _ _ _ _ _ (fun m13 hm13 => ?_)
      dsimp only [jgo, jwp, jst, jct, rfd, BisTold, Nat.beq, lv_args, rlk, rs1, rs2, rdl, rky, rcd, rno, rsw, Value.category, List.filter, List.take, List.drop, List.reverse, List.reverseAux, List.cons_append, List.nil_append, Option.toList, Int.toNat, Int.reduceToNat, if_pos, if_neg, reduceIte, ↓reduceIte, Nat.reduceAdd, Nat.reduceEqDiff, Nat.reduceBEq, beq_self_eq_true, Bool.not_true, Bool.not_false, Bool.and_true, Bool.and_false, Bool.true_and, Bool.false_and, gI_sI, gI_sL, gI_sA, gI_sM, gL_sI, gL_sL, gL_sA, gL_sM, aI_sI, aI_sL, aI_sA, aI_sM, aL_sI, aL_sL, aL_sA, aL_sM, BisTold_0, BisTold_9, BisTold_20, BisTold_24, BisTold_25, oi_0, oi_1, oi_21, Pj_isType, Pj_isWord]; try dsimp only
      try simp only [hR.e2, hR.e14, hR.e15, hR.e17, hR.e18, hR.e36, hR.e42, hR.e49, hR.a3, hR.a6, hR.a51, hR.a19, hR.hp]
      refine hB _ _ _ _ _ _ _ _ (fun m14 hm14 => ?_)
      dsimp only [jgo, jwp, jst, jct, rfd, BisTold, Nat.beq, lv_args, rlk, rs1, rs2, rdl, rky, rcd, rno, rsw, Value.category, List.filter, List.take, List.drop, List.reverse, List.reverseAux, List.cons_append, List.nil_append, Option.toList, Int.toNat, Int.reduceToNat, if_pos, if_neg, reduceIte, ↓reduceIte, Nat.reduceAdd, Nat.reduceEqDiff, Nat.reduceBEq, beq_self_eq_true, Bool.not_true, Bool.not_false, Bool.and_true, Bool.and_false, Bool.true_and, Bool.false_and, gI_sI, gI_sL, gI_sA, gI_sM, gL_sI, gL_sL, gL_sA, gL_sM, aI_sI, aI_sL, aI_sA, aI_sM, aL_sI, aL_sL, aL_sA, aL_sM, BisTold_0, BisTold_9, BisTold_20, BisTold_24, BisTold_25, oi_0, oi_1, oi_21, Pj_isType, Pj_isWord]; try dsimp only
      try simp only [hR.e2, hR.e14, hR.e15, hR.e17, hR.e18, hR.e36, hR.e42, hR.e49, hR.a3, hR.a6, hR.a51, hR.a19, hR.hp]
      unfold Qj_isTold
      try dsimp only
      exact ⟨_, rfl, rfl, rfl, rfl, Or.inr ⟨rfl, by lia⟩⟩
  next => exact hP.elim
def Pj_isRow : JPr := fun A1 A2 σ ρ => match A1, A2 with
  | [.int s], [.int s'] => s = s'
  | _, _ => False
def Qj_isRow : JQr := fun A1 A2 σ ρ w τ w' τ' => match A1, A2 with
  | [.int s], [.int s'] => ∃ b : Int32, w = some (.int b) ∧ w' = some (.int b) ∧ σ = τ ∧ ρ = τ' ∧ (b = 0 ∨ (b = 1 ∧ True))
  | _, _ => False
set_option maxRecDepth 100000 in
set_option maxHeartbeats 4000000 in
theorem j_isRow : JMet 43 Pj_isRow Qj_isRow := by
  refine JMet.by BisRow [] rfl jc0 ?_
  intro A1 A2 σ ρ hP K hB hW
  unfold Pj_isRow at hP
  split at hP
  next s s' =>
    obtain rfl := hP
    intro n0
    refine hB _ _ _ _ _ _ _ _ (fun m1 hm1 => ?_)
    dsimp only [jgo, jwp, jst, jct, rfd, BisRow, Nat.beq, lv_args, rlk, rs1, rs2, rdl, rky, rcd, rno, rsw, Value.category, List.filter, List.take, List.drop, List.reverse, List.reverseAux, List.cons_append, List.nil_append, Option.toList, Int.toNat, Int.reduceToNat, if_pos, if_neg, reduceIte, ↓reduceIte, Nat.reduceAdd, Nat.reduceEqDiff, Nat.reduceBEq, beq_self_eq_true, Bool.not_true, Bool.not_false, Bool.and_true, Bool.and_false, Bool.true_and, Bool.false_and, gI_sI, gI_sL, gI_sA, gI_sM, gL_sI, gL_sL, gL_sA, gL_sM, aI_sI, aI_sL, aI_sA, aI_sM, aL_sI, aL_sL, aL_sA, aL_sM, BisRow_0, BisRow_4, BisRow_9, BisRow_15, BisRow_19, BisRow_20, oi_0, oi_1, oi_9]; try dsimp only
    refine ⟨fun h2 => ⟨(by exact h2), ?_⟩, fun h2 => ⟨(by exact h2), ?_⟩⟩
    · refine hB _ _ _ _ _ _ _ _ (fun m3 hm3 => ?_)
      dsimp only [jgo, jwp, jst, jct, rfd, BisRow, Nat.beq, lv_args, rlk, rs1, rs2, rdl, rky, rcd, rno, rsw, Value.category, List.filter, List.take, List.drop, List.reverse, List.reverseAux, List.cons_append, List.nil_append, Option.toList, Int.toNat, Int.reduceToNat, if_pos, if_neg, reduceIte, ↓reduceIte, Nat.reduceAdd, Nat.reduceEqDiff, Nat.reduceBEq, beq_self_eq_true, Bool.not_true, Bool.not_false, Bool.and_true, Bool.and_false, Bool.true_and, Bool.false_and, gI_sI, gI_sL, gI_sA, gI_sM, gL_sI, gL_sL, gL_sA, gL_sM, aI_sI, aI_sL, aI_sA, aI_sM, aL_sI, aL_sL, aL_sA, aL_sM, BisRow_0, BisRow_4, BisRow_9, BisRow_15, BisRow_19, BisRow_20, oi_0, oi_1, oi_9]; try dsimp only
      refine hB _ _ _ _ _ _ _ _ (fun m4 hm4 => ?_)
      dsimp only [jgo, jwp, jst, jct, rfd, BisRow, Nat.beq, lv_args, rlk, rs1, rs2, rdl, rky, rcd, rno, rsw, Value.category, List.filter, List.take, List.drop, List.reverse, List.reverseAux, List.cons_append, List.nil_append, Option.toList, Int.toNat, Int.reduceToNat, if_pos, if_neg, reduceIte, ↓reduceIte, Nat.reduceAdd, Nat.reduceEqDiff, Nat.reduceBEq, beq_self_eq_true, Bool.not_true, Bool.not_false, Bool.and_true, Bool.and_false, Bool.true_and, Bool.false_and, gI_sI, gI_sL, gI_sA, gI_sM, gL_sI, gL_sL, gL_sA, gL_sM, aI_sI, aI_sL, aI_sA, aI_sM, aL_sI, aL_sL, aL_sA, aL_sM, BisRow_0, BisRow_4, BisRow_9, BisRow_15, BisRow_19, BisRow_20, oi_0, oi_1, oi_9]; try dsimp only
      unfold Qj_isRow
      try dsimp only
      exact ⟨_, rfl, rfl, rfl, rfl, Or.inr ⟨rfl, trivial⟩⟩
    · refine hB _ _ _ _ _ _ _ _ (fun m5 hm5 => ?_)
      dsimp only [jgo, jwp, jst, jct, rfd, BisRow, Nat.beq, lv_args, rlk, rs1, rs2, rdl, rky, rcd, rno, rsw, Value.category, List.filter, List.take, List.drop, List.reverse, List.reverseAux, List.cons_append, List.nil_append, Option.toList, Int.toNat, Int.reduceToNat, if_pos, if_neg, reduceIte, ↓reduceIte, Nat.reduceAdd, Nat.reduceEqDiff, Nat.reduceBEq, beq_self_eq_true, Bool.not_true, Bool.not_false, Bool.and_true, Bool.and_false, Bool.true_and, Bool.false_and, gI_sI, gI_sL, gI_sA, gI_sM, gL_sI, gL_sL, gL_sA, gL_sM, aI_sI, aI_sL, aI_sA, aI_sM, aL_sI, aL_sL, aL_sA, aL_sM, BisRow_0, BisRow_4, BisRow_9, BisRow_15, BisRow_19, BisRow_20, oi_0, oi_1, oi_9]; try dsimp only
      refine ⟨fun h6 => ⟨(by exact h6), ?_⟩, fun h6 => ⟨(by exact h6), ?_⟩⟩
      · refine hB _ _ _ _ _ _ _ _ (fun m7 hm7 => ?_)
        dsimp only [jgo, jwp, jst, jct, rfd, BisRow, Nat.beq, lv_args, rlk, rs1, rs2, rdl, rky, rcd, rno, rsw, Value.category, List.filter, List.take, List.drop, List.reverse, List.reverseAux, List.cons_append, List.nil_append, Option.toList, Int.toNat, Int.reduceToNat, if_pos, if_neg, reduceIte, ↓reduceIte, Nat.reduceAdd, Nat.reduceEqDiff, Nat.reduceBEq, beq_self_eq_true, Bool.not_true, Bool.not_false, Bool.and_true, Bool.and_false, Bool.true_and, Bool.false_and, gI_sI, gI_sL, gI_sA, gI_sM, gL_sI, gL_sL, gL_sA, gL_sM, aI_sI, aI_sL, aI_sA, aI_sM, aL_sI, aL_sL, aL_sA, aL_sM, BisRow_0, BisRow_4, BisRow_9, BisRow_15, BisRow_19, BisRow_20, oi_0, oi_1, oi_9]; try dsimp only
        refine hB _ _ _ _ _ _ _ _ (fun m8 hm8 => ?_)
        dsimp only [jgo, jwp, jst, jct, rfd, BisRow, Nat.beq, lv_args, rlk, rs1, rs2, rdl, rky, rcd, rno, rsw, Value.category, List.filter, List.take, List.drop, List.reverse, List.reverseAux, List.cons_append, List.nil_append, Option.toList, Int.toNat, Int.reduceToNat, if_pos, if_neg, reduceIte, ↓reduceIte, Nat.reduceAdd, Nat.reduceEqDiff, Nat.reduceBEq, beq_self_eq_true, Bool.not_true, Bool.not_false, Bool.and_true, Bool.and_false, Bool.true_and, Bool.false_and, gI_sI, gI_sL, gI_sA, gI_sM, gL_sI, gL_sL, gL_sA, gL_sM, aI_sI, aI_sL, aI_sA, aI_sM, aL_sI, aL_sL, aL_sA, aL_sM, BisRow_0, BisRow_4, BisRow_9, BisRow_15, BisRow_19, BisRow_20, oi_0, oi_1, oi_9]; try dsimp only
        unfold Qj_isRow
        try dsimp only
        exact ⟨_, rfl, rfl, rfl, rfl, Or.inr ⟨rfl, trivial⟩⟩
      · refine hB _ _ _ _ _ _ _ _ (fun m9 hm9 => ?_)
        dsimp only [jgo, jwp, jst, jct, rfd, BisRow, Nat.beq, lv_args, rlk, rs1, rs2, rdl, rky, rcd, rno, rsw, Value.category, List.filter, List.take, List.drop, List.reverse, List.reverseAux, List.cons_append, List.nil_append, Option.toList, Int.toNat, Int.reduceToNat, if_pos, if_neg, reduceIte, ↓reduceIte, Nat.reduceAdd, Nat.reduceEqDiff, Nat.reduceBEq, beq_self_eq_true, Bool.not_true, Bool.not_false, Bool.and_true, Bool.and_false, Bool.true_and, Bool.false_and, gI_sI, gI_sL, gI_sA, gI_sM, gL_sI, gL_sL, gL_sA, gL_sM, aI_sI, aI_sL, aI_sA, aI_sM, aL_sI, aL_sL, aL_sA, aL_sM, BisRow_0, BisRow_4, BisRow_9, BisRow_15, BisRow_19, BisRow_20, oi_0, oi_1, oi_9]; try dsimp only
        refine ⟨fun h10 => ⟨(by exact h10), ?_⟩, fun h10 => ⟨(by exact h10), ?_⟩⟩
        · refine hB _ _ _ _ _ _ _ _ (fun m11 hm11 => ?_)
          dsimp only [jgo, jwp, jst, jct, rfd, BisRow, Nat.beq, lv_args, rlk, rs1, rs2, rdl, rky, rcd, rno, rsw, Value.category, List.filter, List.take, List.drop, List.reverse, List.reverseAux, List.cons_append, List.nil_append, Option.toList, Int.toNat, Int.reduceToNat, if_pos, if_neg, reduceIte, ↓reduceIte, Nat.reduceAdd, Nat.reduceEqDiff, Nat.reduceBEq, beq_self_eq_true, Bool.not_true, Bool.not_false, Bool.and_true, Bool.and_false, Bool.true_and, Bool.false_and, gI_sI, gI_sL, gI_sA, gI_sM, gL_sI, gL_sL, gL_sA, gL_sM, aI_sI, aI_sL, aI_sA, aI_sM, aL_sI, aL_sL, aL_sA, aL_sM, BisRow_0, BisRow_4, BisRow_9, BisRow_15, BisRow_19, BisRow_20, oi_0, oi_1, oi_9]; try dsimp only
          refine hB _ _ _ _ _ _ _ _ (fun m12 hm12 => ?_)
          dsimp only [jgo, jwp, jst, jct, rfd, BisRow, Nat.beq, lv_args, rlk, rs1, rs2, rdl, rky, rcd, rno, rsw, Value.category, List.filter, List.take, List.drop, List.reverse, List.reverseAux, List.cons_append, List.nil_append, Option.toList, Int.toNat, Int.reduceToNat, if_pos, if_neg, reduceIte, ↓reduceIte, Nat.reduceAdd, Nat.reduceEqDiff, Nat.reduceBEq, beq_self_eq_true, Bool.not_true, Bool.not_false, Bool.and_true, Bool.and_false, Bool.true_and, Bool.false_and, gI_sI, gI_sL, gI_sA, gI_sM, gL_sI, gL_sL, gL_sA, gL_sM, aI_sI, aI_sL, aI_sA, aI_sM, aL_sI, aL_sL, aL_sA, aL_sM, BisRow_0, BisRow_4, BisRow_9, BisRow_15, BisRow_19, BisRow_20, oi_0, oi_1, oi_9]; try dsimp only
          unfold Qj_isRow
          try dsimp only
          exact ⟨_, rfl, rfl, rfl, rfl, Or.inl rfl⟩
        · refine hB _ _ _ _ _ _ _ _ (fun m13 hm13 => ?_)
          dsimp only [jgo, jwp, jst, jct, rfd, BisRow, Nat.beq, lv_args, rlk, rs1, rs2, rdl, rky, rcd, rno, rsw, Value.category, List.filter, List.take, List.drop, List.reverse, List.reverseAux, List.cons_append, List.nil_append, Option.toList, Int.toNat, Int.reduceToNat, if_pos, if_neg, reduceIte, ↓reduceIte, Nat.reduceAdd, Nat.reduceEqDiff, Nat.reduceBEq, beq_self_eq_true, Bool.not_true, Bool.not_false, Bool.and_true, Bool.and_false, Bool.true_and, Bool.false_and, gI_sI, gI_sL, gI_sA, gI_sM, gL_sI, gL_sL, gL_sA, gL_sM, aI_sI, aI_sL, aI_sA, aI_sM, aL_sI, aL_sL, aL_sA, aL_sM, BisRow_0, BisRow_4, BisRow_9, BisRow_15, BisRow_19, BisRow_20, oi_0, oi_1, oi_9]; try dsimp only
          refine hB _ _ _ _ _ _ _ _ (fun m14 hm14 => ?_)
          dsimp only [jgo, jwp, jst, jct, rfd, BisRow, Nat.beq, lv_args, rlk, rs1, rs2, rdl, rky, rcd, rno, rsw, Value.category, List.filter, List.take, List.drop, List.reverse, List.reverseAux, List.cons_append, List.nil_append, Option.toList, Int.toNat, Int.reduceToNat, if_pos, if_neg, reduceIte, ↓reduceIte, Nat.reduceAdd, Nat.reduceEqDiff, Nat.reduceBEq, beq_self_eq_true, Bool.not_true, Bool.not_false, Bool.and_true, Bool.and_false, Bool.true_and, Bool.false_and, gI_sI, gI_sL, gI_sA, gI_sM, gL_sI, gL_sL, gL_sA, gL_sM, aI_sI, aI_sL, aI_sA, aI_sM, aL_sI, aL_sL, aL_sA, aL_sM, BisRow_0, BisRow_4, BisRow_9, BisRow_15, BisRow_19, BisRow_20, oi_0, oi_1, oi_9]; try dsimp only
          unfold Qj_isRow
          try dsimp only
          exact ⟨_, rfl, rfl, rfl, rfl, Or.inr ⟨rfl, trivial⟩⟩
  next => exact hP.elim
def Pu_pop : UP1 := fun A1 σ => match A1 with
  | [] => True
  | _ => False
def Qu_pop : UQ1 := fun A1 σ w τ => match A1 with
  | [] => w = none ∧ ∃ a, Em σ 21 a τ
  | _ => False
set_option maxRecDepth 100000 in
set_option maxHeartbeats 4000000 in
theorem u_pop : UMet 51 Pu_pop Qu_pop := by
  refine UMet.by Bpop [(20, Pu_emit, Qu_emit)] rfl (ucc u_emit uc0) ?_
  intro A1 σ hP K hB hW
  unfold Pu_pop at hP
  split at hP
  next =>
    intro n0
    refine hB _ _ _ _ _ (fun m1 hm1 => ?_)
    dsimp only [ugo, uwp, ust, uct, rfd, Bpop, Nat.beq, lv_args, rlk, rs1, rs2, rdl, rky, rcd, rno, rsw, Value.category, List.filter, List.take, List.drop, List.reverse, List.reverseAux, List.cons_append, List.nil_append, Option.toList, Int.toNat, Int.reduceToNat, if_pos, if_neg, reduceIte, ↓reduceIte, Nat.reduceAdd, Nat.reduceEqDiff, Nat.reduceBEq, beq_self_eq_true, Bool.not_true, Bool.not_false, Bool.and_true, Bool.and_false, Bool.true_and, Bool.false_and, gI_sI, gI_sL, gI_sA, gI_sM, gL_sI, gL_sL, gL_sA, gL_sM, aI_sI, aI_sL, aI_sA, aI_sM, aL_sI, aL_sL, aL_sA, aL_sM, Bpop_0, Bpop_19, Bpop_25, Bpop_30, Bpop_35, Bpop_39, Bpop_40, oi_0, oi_1, oi_17, oi_18, oi_21, oi_3, oi_4, Pu_emit]; try dsimp only
    intro p2
    refine ⟨fun h3 => ?_, fun h3 => ?_⟩
    · refine hB _ _ _ _ _ (fun m4 hm4 => ?_)
      dsimp only [ugo, uwp, ust, uct, rfd, Bpop, Nat.beq, lv_args, rlk, rs1, rs2, rdl, rky, rcd, rno, rsw, Value.category, List.filter, List.take, List.drop, List.reverse, List.reverseAux, List.cons_append, List.nil_append, Option.toList, Int.toNat, Int.reduceToNat, if_pos, if_neg, reduceIte, ↓reduceIte, Nat.reduceAdd, Nat.reduceEqDiff, Nat.reduceBEq, beq_self_eq_true, Bool.not_true, Bool.not_false, Bool.and_true, Bool.and_false, Bool.true_and, Bool.false_and, gI_sI, gI_sL, gI_sA, gI_sM, gL_sI, gL_sL, gL_sA, gL_sM, aI_sI, aI_sL, aI_sA, aI_sM, aL_sI, aL_sL, aL_sA, aL_sM, Bpop_0, Bpop_19, Bpop_25, Bpop_30, Bpop_35, Bpop_39, Bpop_40, oi_0, oi_1, oi_17, oi_18, oi_21, oi_3, oi_4, Pu_emit]; try dsimp only
      refine hB _ _ _ _ _ (fun m5 hm5 => ?_)
      dsimp only [ugo, uwp, ust, uct, rfd, Bpop, Nat.beq, lv_args, rlk, rs1, rs2, rdl, rky, rcd, rno, rsw, Value.category, List.filter, List.take, List.drop, List.reverse, List.reverseAux, List.cons_append, List.nil_append, Option.toList, Int.toNat, Int.reduceToNat, if_pos, if_neg, reduceIte, ↓reduceIte, Nat.reduceAdd, Nat.reduceEqDiff, Nat.reduceBEq, beq_self_eq_true, Bool.not_true, Bool.not_false, Bool.and_true, Bool.and_false, Bool.true_and, Bool.false_and, gI_sI, gI_sL, gI_sA, gI_sM, gL_sI, gL_sL, gL_sA, gL_sM, aI_sI, aI_sL, aI_sA, aI_sM, aL_sI, aL_sL, aL_sA, aL_sM, Bpop_0, Bpop_19, Bpop_25, Bpop_30, Bpop_35, Bpop_39, Bpop_40, oi_0, oi_1, oi_17, oi_18, oi_21, oi_3, oi_4, Pu_emit]; try dsimp only
      intro p6
      refine ⟨trivial, fun w7 τ7 hq7 => ?_⟩
      obtain ⟨rfl, hE7⟩ := hq7
      dsimp only [Option.toList, List.cons_append, List.nil_append, Nat.beq, gI_sI, gI_sL, gI_sA, gI_sM, gL_sI, gL_sL, gL_sA, gL_sM, aI_sI, aI_sL, aI_sA, aI_sM, aL_sI, aL_sL, aL_sA, aL_sM]
      unfold Qu_pop
      try dsimp only
      exact ⟨rfl, _, hE7⟩
    · refine hB _ _ _ _ _ (fun m8 hm8 => ?_)
      dsimp only [ugo, uwp, ust, uct, rfd, Bpop, Nat.beq, lv_args, rlk, rs1, rs2, rdl, rky, rcd, rno, rsw, Value.category, List.filter, List.take, List.drop, List.reverse, List.reverseAux, List.cons_append, List.nil_append, Option.toList, Int.toNat, Int.reduceToNat, if_pos, if_neg, reduceIte, ↓reduceIte, Nat.reduceAdd, Nat.reduceEqDiff, Nat.reduceBEq, beq_self_eq_true, Bool.not_true, Bool.not_false, Bool.and_true, Bool.and_false, Bool.true_and, Bool.false_and, gI_sI, gI_sL, gI_sA, gI_sM, gL_sI, gL_sL, gL_sA, gL_sM, aI_sI, aI_sL, aI_sA, aI_sM, aL_sI, aL_sL, aL_sA, aL_sM, Bpop_0, Bpop_19, Bpop_25, Bpop_30, Bpop_35, Bpop_39, Bpop_40, oi_0, oi_1, oi_17, oi_18, oi_21, oi_3, oi_4, Pu_emit]; try dsimp only
      refine ⟨fun h9 => ?_, fun h9 => ?_⟩
      · refine hB _ _ _ _ _ (fun m10 hm10 => ?_)
        dsimp only [ugo, uwp, ust, uct, rfd, Bpop, Nat.beq, lv_args, rlk, rs1, rs2, rdl, rky, rcd, rno, rsw, Value.category, List.filter, List.take, List.drop, List.reverse, List.reverseAux, List.cons_append, List.nil_append, Option.toList, Int.toNat, Int.reduceToNat, if_pos, if_neg, reduceIte, ↓reduceIte, Nat.reduceAdd, Nat.reduceEqDiff, Nat.reduceBEq, beq_self_eq_true, Bool.not_true, Bool.not_false, Bool.and_true, Bool.and_false, Bool.true_and, Bool.false_and, gI_sI, gI_sL, gI_sA, gI_sM, gL_sI, gL_sL, gL_sA, gL_sM, aI_sI, aI_sL, aI_sA, aI_sM, aL_sI, aL_sL, aL_sA, aL_sM, Bpop_0, Bpop_19, Bpop_25, Bpop_30, Bpop_35, Bpop_39, Bpop_40, oi_0, oi_1, oi_17, oi_18, oi_21, oi_3, oi_4, Pu_emit]; try dsimp only
        refine hB _ _ _ _ _ (fun m11 hm11 => ?_)
        dsimp only [ugo, uwp, ust, uct, rfd, Bpop, Nat.beq, lv_args, rlk, rs1, rs2, rdl, rky, rcd, rno, rsw, Value.category, List.filter, List.take, List.drop, List.reverse, List.reverseAux, List.cons_append, List.nil_append, Option.toList, Int.toNat, Int.reduceToNat, if_pos, if_neg, reduceIte, ↓reduceIte, Nat.reduceAdd, Nat.reduceEqDiff, Nat.reduceBEq, beq_self_eq_true, Bool.not_true, Bool.not_false, Bool.and_true, Bool.and_false, Bool.true_and, Bool.false_and, gI_sI, gI_sL, gI_sA, gI_sM, gL_sI, gL_sL, gL_sA, gL_sM, aI_sI, aI_sL, aI_sA, aI_sM, aL_sI, aL_sL, aL_sA, aL_sM, Bpop_0, Bpop_19, Bpop_25, Bpop_30, Bpop_35, Bpop_39, Bpop_40, oi_0, oi_1, oi_17, oi_18, oi_21, oi_3, oi_4, Pu_emit]; try dsimp only
        intro p12
        refine ⟨trivial, fun w13 τ13 hq13 => ?_⟩
        obtain ⟨rfl, hE13⟩ := hq13
        dsimp only [Option.toList, List.cons_append, List.nil_append, Nat.beq, gI_sI, gI_sL, gI_sA, gI_sM, gL_sI, gL_sL, gL_sA, gL_sM, aI_sI, aI_sL, aI_sA, aI_sM, aL_sI, aL_sL, aL_sA, aL_sM]
        unfold Qu_pop
        try dsimp only
        exact ⟨rfl, _, hE13⟩
      · refine hB _ _ _ _ _ (fun m14 hm14 => ?_)
        dsimp only [ugo, uwp, ust, uct, rfd, Bpop, Nat.beq, lv_args, rlk, rs1, rs2, rdl, rky, rcd, rno, rsw, Value.category, List.filter, List.take, List.drop, List.reverse, List.reverseAux, List.cons_append, List.nil_append, Option.toList, Int.toNat, Int.reduceToNat, if_pos, if_neg, reduceIte, ↓reduceIte, Nat.reduceAdd, Nat.reduceEqDiff, Nat.reduceBEq, beq_self_eq_true, Bool.not_true, Bool.not_false, Bool.and_true, Bool.and_false, Bool.true_and, Bool.false_and, gI_sI, gI_sL, gI_sA, gI_sM, gL_sI, gL_sL, gL_sA, gL_sM, aI_sI, aI_sL, aI_sA, aI_sM, aL_sI, aL_sL, aL_sA, aL_sM, Bpop_0, Bpop_19, Bpop_25, Bpop_30, Bpop_35, Bpop_39, Bpop_40, oi_0, oi_1, oi_17, oi_18, oi_21, oi_3, oi_4, Pu_emit]; try dsimp only
        refine ⟨fun h15 => ?_, fun h15 => ?_⟩
        · refine hB _ _ _ _ _ (fun m16 hm16 => ?_)
          dsimp only [ugo, uwp, ust, uct, rfd, Bpop, Nat.beq, lv_args, rlk, rs1, rs2, rdl, rky, rcd, rno, rsw, Value.category, List.filter, List.take, List.drop, List.reverse, List.reverseAux, List.cons_append, List.nil_append, Option.toList, Int.toNat, Int.reduceToNat, if_pos, if_neg, reduceIte, ↓reduceIte, Nat.reduceAdd, Nat.reduceEqDiff, Nat.reduceBEq, beq_self_eq_true, Bool.not_true, Bool.not_false, Bool.and_true, Bool.and_false, Bool.true_and, Bool.false_and, gI_sI, gI_sL, gI_sA, gI_sM, gL_sI, gL_sL, gL_sA, gL_sM, aI_sI, aI_sL, aI_sA, aI_sM, aL_sI, aL_sL, aL_sA, aL_sM, Bpop_0, Bpop_19, Bpop_25, Bpop_30, Bpop_35, Bpop_39, Bpop_40, oi_0, oi_1, oi_17, oi_18, oi_21, oi_3, oi_4, Pu_emit]; try dsimp only
          refine hB _ _ _ _ _ (fun m17 hm17 => ?_)
          dsimp only [ugo, uwp, ust, uct, rfd, Bpop, Nat.beq, lv_args, rlk, rs1, rs2, rdl, rky, rcd, rno, rsw, Value.category, List.filter, List.take, List.drop, List.reverse, List.reverseAux, List.cons_append, List.nil_append, Option.toList, Int.toNat, Int.reduceToNat, if_pos, if_neg, reduceIte, ↓reduceIte, Nat.reduceAdd, Nat.reduceEqDiff, Nat.reduceBEq, beq_self_eq_true, Bool.not_true, Bool.not_false, Bool.and_true, Bool.and_false, Bool.true_and, Bool.false_and, gI_sI, gI_sL, gI_sA, gI_sM, gL_sI, gL_sL, gL_sA, gL_sM, aI_sI, aI_sL, aI_sA, aI_sM, aL_sI, aL_sL, aL_sA, aL_sM, Bpop_0, Bpop_19, Bpop_25, Bpop_30, Bpop_35, Bpop_39, Bpop_40, oi_0, oi_1, oi_17, oi_18, oi_21, oi_3, oi_4, Pu_emit]; try dsimp only
          intro p18
          refine ⟨trivial, fun w19 τ19 hq19 => ?_⟩
          obtain ⟨rfl, hE19⟩ := hq19
          dsimp only [Option.toList, List.cons_append, List.nil_append, Nat.beq, gI_sI, gI_sL, gI_sA, gI_sM, gL_sI, gL_sL, gL_sA, gL_sM, aI_sI, aI_sL, aI_sA, aI_sM, aL_sI, aL_sL, aL_sA, aL_sM]
          unfold Qu_pop
          try dsimp only
          exact ⟨rfl, _, hE19⟩
        · refine hB _ _ _ _ _ (fun m20 hm20 => ?_)
          dsimp only [ugo, uwp, ust, uct, rfd, Bpop, Nat.beq, lv_args, rlk, rs1, rs2, rdl, rky, rcd, rno, rsw, Value.category, List.filter, List.take, List.drop, List.reverse, List.reverseAux, List.cons_append, List.nil_append, Option.toList, Int.toNat, Int.reduceToNat, if_pos, if_neg, reduceIte, ↓reduceIte, Nat.reduceAdd, Nat.reduceEqDiff, Nat.reduceBEq, beq_self_eq_true, Bool.not_true, Bool.not_false, Bool.and_true, Bool.and_false, Bool.true_and, Bool.false_and, gI_sI, gI_sL, gI_sA, gI_sM, gL_sI, gL_sL, gL_sA, gL_sM, aI_sI, aI_sL, aI_sA, aI_sM, aL_sI, aL_sL, aL_sA, aL_sM, Bpop_0, Bpop_19, Bpop_25, Bpop_30, Bpop_35, Bpop_39, Bpop_40, oi_0, oi_1, oi_17, oi_18, oi_21, oi_3, oi_4, Pu_emit]; try dsimp only
          refine ⟨fun h21 => ?_, fun h21 => ?_⟩
          · refine hB _ _ _ _ _ (fun m22 hm22 => ?_)
            dsimp only [ugo, uwp, ust, uct, rfd, Bpop, Nat.beq, lv_args, rlk, rs1, rs2, rdl, rky, rcd, rno, rsw, Value.category, List.filter, List.take, List.drop, List.reverse, List.reverseAux, List.cons_append, List.nil_append, Option.toList, Int.toNat, Int.reduceToNat, if_pos, if_neg, reduceIte, ↓reduceIte, Nat.reduceAdd, Nat.reduceEqDiff, Nat.reduceBEq, beq_self_eq_true, Bool.not_true, Bool.not_false, Bool.and_true, Bool.and_false, Bool.true_and, Bool.false_and, gI_sI, gI_sL, gI_sA, gI_sM, gL_sI, gL_sL, gL_sA, gL_sM, aI_sI, aI_sL, aI_sA, aI_sM, aL_sI, aL_sL, aL_sA, aL_sM, Bpop_0, Bpop_19, Bpop_25, Bpop_30, Bpop_35, Bpop_39, Bpop_40, oi_0, oi_1, oi_17, oi_18, oi_21, oi_3, oi_4, Pu_emit]; try dsimp only
            refine hB _ _ _ _ _ (fun m23 hm23 => ?_)
            dsimp only [ugo, uwp, ust, uct, rfd, Bpop, Nat.beq, lv_args, rlk, rs1, rs2, rdl, rky, rcd, rno, rsw, Value.category, List.filter, List.take, List.drop, List.reverse, List.reverseAux, List.cons_append, List.nil_append, Option.toList, Int.toNat, Int.reduceToNat, if_pos, if_neg, reduceIte, ↓reduceIte, Nat.reduceAdd, Nat.reduceEqDiff, Nat.reduceBEq, beq_self_eq_true, Bool.not_true, Bool.not_false, Bool.and_true, Bool.and_false, Bool.true_and, Bool.false_and, gI_sI, gI_sL, gI_sA, gI_sM, gL_sI, gL_sL, gL_sA, gL_sM, aI_sI, aI_sL, aI_sA, aI_sM, aL_sI, aL_sL, aL_sA, aL_sM, Bpop_0, Bpop_19, Bpop_25, Bpop_30, Bpop_35, Bpop_39, Bpop_40, oi_0, oi_1, oi_17, oi_18, oi_21, oi_3, oi_4, Pu_emit]; try dsimp only
            intro p24
            refine ⟨trivial, fun w25 τ25 hq25 => ?_⟩
            obtain ⟨rfl, hE25⟩ := hq25
            dsimp only [Option.toList, List.cons_append, List.nil_append, Nat.beq, gI_sI, gI_sL, gI_sA, gI_sM, gL_sI, gL_sL, gL_sA, gL_sM, aI_sI, aI_sL, aI_sA, aI_sM, aL_sI, aL_sL, aL_sA, aL_sM]
            unfold Qu_pop
            try dsimp only
            exact ⟨rfl, _, hE25⟩
          · refine hB _ _ _ _ _ (fun m26 hm26 => ?_)
            dsimp only [ugo, uwp, ust, uct, rfd, Bpop, Nat.beq, lv_args, rlk, rs1, rs2, rdl, rky, rcd, rno, rsw, Value.category, List.filter, List.take, List.drop, List.reverse, List.reverseAux, List.cons_append, List.nil_append, Option.toList, Int.toNat, Int.reduceToNat, if_pos, if_neg, reduceIte, ↓reduceIte, Nat.reduceAdd, Nat.reduceEqDiff, Nat.reduceBEq, beq_self_eq_true, Bool.not_true, Bool.not_false, Bool.and_true, Bool.and_false, Bool.true_and, Bool.false_and, gI_sI, gI_sL, gI_sA, gI_sM, gL_sI, gL_sL, gL_sA, gL_sM, aI_sI, aI_sL, aI_sA, aI_sM, aL_sI, aL_sL, aL_sA, aL_sM, Bpop_0, Bpop_19, Bpop_25, Bpop_30, Bpop_35, Bpop_39, Bpop_40, oi_0, oi_1, oi_17, oi_18, oi_21, oi_3, oi_4, Pu_emit]; try dsimp only
            refine hB _ _ _ _ _ (fun m27 hm27 => ?_)
            dsimp only [ugo, uwp, ust, uct, rfd, Bpop, Nat.beq, lv_args, rlk, rs1, rs2, rdl, rky, rcd, rno, rsw, Value.category, List.filter, List.take, List.drop, List.reverse, List.reverseAux, List.cons_append, List.nil_append, Option.toList, Int.toNat, Int.reduceToNat, if_pos, if_neg, reduceIte, ↓reduceIte, Nat.reduceAdd, Nat.reduceEqDiff, Nat.reduceBEq, beq_self_eq_true, Bool.not_true, Bool.not_false, Bool.and_true, Bool.and_false, Bool.true_and, Bool.false_and, gI_sI, gI_sL, gI_sA, gI_sM, gL_sI, gL_sL, gL_sA, gL_sM, aI_sI, aI_sL, aI_sA, aI_sM, aL_sI, aL_sL, aL_sA, aL_sM, Bpop_0, Bpop_19, Bpop_25, Bpop_30, Bpop_35, Bpop_39, Bpop_40, oi_0, oi_1, oi_17, oi_18, oi_21, oi_3, oi_4, Pu_emit]; try dsimp only
            intro p28
            refine ⟨trivial, fun w29 τ29 hq29 => ?_⟩
            obtain ⟨rfl, hE29⟩ := hq29
            dsimp only [Option.toList, List.cons_append, List.nil_append, Nat.beq, gI_sI, gI_sL, gI_sA, gI_sM, gL_sI, gL_sL, gL_sA, gL_sM, aI_sI, aI_sL, aI_sA, aI_sM, aL_sI, aL_sL, aL_sA, aL_sM]
            unfold Qu_pop
            try dsimp only
            exact ⟨rfl, _, hE29⟩
  next => exact hP.elim
