/-! the reference's flow: exps -/
def beS (σ : RS) (b : Int64) : RS := sL (sL σ 93 b) 94 b
def nowR (σ : RS) : Int64 := gL σ 93 &&& gL σ 94
/-- bit v -/
def bitR (b : Int64) (v : Int32) : Prop := b >>> (v.toInt64 &&& 63) &&& 1 = 1
/-- a CONSTANT of boolean: all holds on the other side -/
def sidS (σ : RS) (c : Int32) : RS := if ¬ aI σ 81 c.toNatClampNeg = 0 ∨ aI σ 84 c.toNatClampNeg = 0 then beS σ (nowR σ) else if aL σ 85 c.toNatClampNeg = 0 then sL (beS σ (nowR σ)) 93 (Int64.ofInt (-1)) else sL (beS σ (nowR σ)) 94 (Int64.ofInt (-1))
/-- whether the value of v that is taken is not told to be there -/
def unS (σ : RS) (u p : Int32) : RS := sI (sI σ 114 u) 115 p
/-- what an exp's code does to what holds -/
def fxS (σ : RS) (c : Int32) : RS :=
  if aI σ 19 c.toNatClampNeg = 3 ∨ aI σ 19 c.toNatClampNeg = 4 ∨ aI σ 19 c.toNatClampNeg = 16 then beS σ (nowR σ)
  else if aI σ 19 c.toNatClampNeg = 5 ∧ aI σ 20 c.toNatClampNeg = 33 then sL (sL σ 93 (gL σ 94)) 94 (gL σ 93)
  else if aI σ 19 c.toNatClampNeg = 15 then σ
  else if aI σ 19 c.toNatClampNeg = 8 ∨ aI σ 19 c.toNatClampNeg = 12 then beS (sI (sM σ 102 (vp_updL (aL σ 102) (gI σ 100).toNatClampNeg (gL σ 94))) 100 (gI σ 100 + 1)) (gL σ 93)
  else if aI σ 19 c.toNatClampNeg = 9 then sL (sI σ 100 (gI σ 100 - 1)) 94 (gL σ 94 &&& aL σ 102 (gI σ 100 - 1).toNatClampNeg)
  else if aI σ 19 c.toNatClampNeg = 10 then beS (sI (sM σ 101 (vp_updL (aL σ 101) (gI σ 100).toNatClampNeg (gL σ 93))) 100 (gI σ 100 + 1)) (gL σ 94)
  else if aI σ 19 c.toNatClampNeg = 11 then sL (sI σ 100 (gI σ 100 - 1)) 93 (gL σ 93 &&& aL σ 101 (gI σ 100 - 1).toNatClampNeg)
  else if aI σ 19 c.toNatClampNeg = 13 then beS (sM (sM σ 101 (vp_updL (aL σ 101) (gI σ 100 - 1).toNatClampNeg (gL σ 93))) 102 (vp_updL (aL σ 102) (gI σ 100 - 1).toNatClampNeg (gL σ 94))) (aL σ 102 (gI σ 100 - 1).toNatClampNeg)
  else if aI σ 19 c.toNatClampNeg = 14 then (fun Y => if aI σ 81 c.toNatClampNeg = 0 then Y else beS Y (nowR Y)) (sL (sL (sI σ 100 (gI σ 100 - 1)) 93 (gL σ 93 &&& aL σ 101 (gI σ 100 - 1).toNatClampNeg)) 94 (gL σ 94 &&& aL σ 102 (gI σ 100 - 1).toNatClampNeg))
  else if aI σ 19 c.toNatClampNeg = 17 then beS σ (nowR σ ||| 1 <<< ((aI σ 83 c.toNatClampNeg).toInt64 &&& 63))
  else sidS σ c
/-- whether it takes a value that is not surely there -/
def uvR (σ : RS) (c : Int32) : Prop :=
  (aI σ 19 c.toNatClampNeg = 2 ∧ ¬ (¬ aI σ 45 (aI σ 83 c.toNatClampNeg).toNatClampNeg = 0 ∧ ¬ aI σ 86 (aI σ 83 c.toNatClampNeg).toNatClampNeg = 0) ∧ ¬ bitR (nowR σ) (aI σ 83 c.toNatClampNeg)) ∨
  ((aI σ 19 c.toNatClampNeg = 3 ∨ aI σ 19 c.toNatClampNeg = 4) ∧ ¬ bitR (nowR σ) (aI σ 83 c.toNatClampNeg)) ∨
  (aI σ 19 c.toNatClampNeg = 16 ∧ ¬ bitR (nowR σ) (aI σ 80 (aI σ 22 c.toNatClampNeg).toNatClampNeg))
theorem un_id {σ : RS} : unS σ (gI σ 114) (gI σ 115) = σ := by unfold unS; rw [sI_id, sI_id]
def Pv_now : UP1 := fun A1 σ => match A1 with
  | [] => True
  | _ => False
def Qv_now : UQ1 := fun A1 σ w τ => match A1 with
  | [] => σ = τ ∧ w = some (.long (nowR σ))
  | _ => False
def Qw_now : UQ1 := fun A1 σ w τ => Pv_now A1 σ → Qv_now A1 σ w τ
set_option maxRecDepth 100000 in
set_option maxHeartbeats 4000000 in
theorem v_now : UMet 111 (Pv_now) (Qv_now) := by
  refine UMet.by Bnow [] rfl uc0 ?_
  intro A1 σ hP K hB hW
  unfold Pv_now at hP
  split at hP
  next =>
    intro n0
    refine hB _ _ _ _ _ (fun m1 hm1 => ?_)
    dsimp only [ugo, uwp, ust, uct, rfd, Bnow, Bnow_0, Nat.beq, lv_args, rlk, rs1, rs2, rdl, rky, rcd, rno, rsw, Value.category, List.filter, List.take, List.drop, List.reverse, List.reverseAux, List.cons_append, List.nil_append, Option.toList, Int.toNat, Int.reduceToNat, if_pos, if_neg, reduceIte, ↓reduceIte, Nat.reduceAdd, Nat.reduceEqDiff, Nat.reduceBEq, beq_self_eq_true, Bool.not_true, Bool.not_false, Bool.and_true, Bool.and_false, Bool.true_and, Bool.false_and, gI_sI, gI_sL, gI_sA, gI_sM, gL_sI, gL_sL, gL_sA, gL_sM, aI_sI, aI_sL, aI_sA, aI_sM, aL_sI, aL_sL, aL_sA, aL_sM]; try dsimp only
    unfold Qv_now
    try dsimp only
    exact ⟨rfl, rfl⟩
  next => exact hP.elim
theorem w_now : UMet 111 (fun _ _ => True) Qw_now := fun A1 σ _ w τ h hP => v_now A1 σ hP w τ h
def Pv_be : UP1 := fun A1 σ => match A1 with
  | [.long bits] => True
  | _ => False
def Qv_be : UQ1 := fun A1 σ w τ => match A1 with
  | [.long bits] => w = none ∧ τ = beS σ bits
  | _ => False
def Qw_be : UQ1 := fun A1 σ w τ => Pv_be A1 σ → Qv_be A1 σ w τ
set_option maxRecDepth 100000 in
set_option maxHeartbeats 4000000 in
theorem v_be : UMet 112 (Pv_be) (Qv_be) := by
  refine UMet.by Bbe [] rfl uc0 ?_
  intro A1 σ hP K hB hW
  unfold Pv_be at hP
  split at hP
  next bits =>
    intro n0
    refine hB _ _ _ _ _ (fun m1 hm1 => ?_)
    dsimp only [ugo, uwp, ust, uct, rfd, Bbe, Bbe_0, Nat.beq, lv_args, rlk, rs1, rs2, rdl, rky, rcd, rno, rsw, Value.category, List.filter, List.take, List.drop, List.reverse, List.reverseAux, List.cons_append, List.nil_append, Option.toList, Int.toNat, Int.reduceToNat, if_pos, if_neg, reduceIte, ↓reduceIte, Nat.reduceAdd, Nat.reduceEqDiff, Nat.reduceBEq, beq_self_eq_true, Bool.not_true, Bool.not_false, Bool.and_true, Bool.and_false, Bool.true_and, Bool.false_and, gI_sI, gI_sL, gI_sA, gI_sM, gL_sI, gL_sL, gL_sA, gL_sM, aI_sI, aI_sL, aI_sA, aI_sM, aL_sI, aL_sL, aL_sA, aL_sM]; try dsimp only
    unfold Qv_be
    try dsimp only
    exact ⟨rfl, rfl⟩
  next => exact hP.elim
theorem w_be : UMet 112 (fun _ _ => True) Qw_be := fun A1 σ _ w τ h hP => v_be A1 σ hP w τ h
def Pv_lateErr : UP1 := fun A1 σ => match A1 with
  | [.int what, .int token] => ¬ what = 0
  | _ => False
def Qv_lateErr : UQ1 := fun A1 σ w τ => match A1 with
  | [.int what, .int token] => w = none ∧ ∃ u p : Int32, ¬ u = 0 ∧ τ = sI (sI σ 112 u) 113 p
  | _ => False
def Qw_lateErr : UQ1 := fun A1 σ w τ => Pv_lateErr A1 σ → Qv_lateErr A1 σ w τ
set_option maxRecDepth 100000 in
set_option maxHeartbeats 4000000 in
theorem v_lateErr : UMet 110 (Pv_lateErr) (Qv_lateErr) := by
  refine UMet.by BlateErr [] rfl uc0 ?_
  intro A1 σ hP K hB hW
  unfold Pv_lateErr at hP
  split at hP
  next what token =>
    intro n0
    refine hB _ _ _ _ _ (fun m1 hm1 => ?_)
    dsimp only [ugo, uwp, ust, uct, rfd, BlateErr, BlateErr_0, Nat.beq, lv_args, rlk, rs1, rs2, rdl, rky, rcd, rno, rsw, Value.category, List.filter, List.take, List.drop, List.reverse, List.reverseAux, List.cons_append, List.nil_append, Option.toList, Int.toNat, Int.reduceToNat, if_pos, if_neg, reduceIte, ↓reduceIte, Nat.reduceAdd, Nat.reduceEqDiff, Nat.reduceBEq, beq_self_eq_true, Bool.not_true, Bool.not_false, Bool.and_true, Bool.and_false, Bool.true_and, Bool.false_and, gI_sI, gI_sL, gI_sA, gI_sM, gL_sI, gL_sL, gL_sA, gL_sM, aI_sI, aI_sL, aI_sA, aI_sM, aL_sI, aL_sL, aL_sA, aL_sM]; try dsimp only
    intro p2
    refine ⟨fun h3 => ?_, fun h3 => ?_⟩
    · refine hB _ _ _ _ _ (fun m4 hm4 => ?_)
      dsimp only [ugo, uwp, ust, uct, rfd, BlateErr, BlateErr_39, Nat.beq, lv_args, rlk, rs1, rs2, rdl, rky, rcd, rno, rsw, Value.category, List.filter, List.take, List.drop, List.reverse, List.reverseAux, List.cons_append, List.nil_append, Option.toList, Int.toNat, Int.reduceToNat, if_pos, if_neg, reduceIte, ↓reduceIte, Nat.reduceAdd, Nat.reduceEqDiff, Nat.reduceBEq, beq_self_eq_true, Bool.not_true, Bool.not_false, Bool.and_true, Bool.and_false, Bool.true_and, Bool.false_and, gI_sI, gI_sL, gI_sA, gI_sM, gL_sI, gL_sL, gL_sA, gL_sM, aI_sI, aI_sL, aI_sA, aI_sM, aL_sI, aL_sL, aL_sA, aL_sM]; try dsimp only
      unfold Qv_lateErr
      try dsimp only
      exact ⟨rfl, what, _, hP, rfl⟩
    · refine hB _ _ _ _ _ (fun m5 hm5 => ?_)
      dsimp only [ugo, uwp, ust, uct, rfd, BlateErr, BlateErr_14, Nat.beq, lv_args, rlk, rs1, rs2, rdl, rky, rcd, rno, rsw, Value.category, List.filter, List.take, List.drop, List.reverse, List.reverseAux, List.cons_append, List.nil_append, Option.toList, Int.toNat, Int.reduceToNat, if_pos, if_neg, reduceIte, ↓reduceIte, Nat.reduceAdd, Nat.reduceEqDiff, Nat.reduceBEq, beq_self_eq_true, Bool.not_true, Bool.not_false, Bool.and_true, Bool.and_false, Bool.true_and, Bool.false_and, gI_sI, gI_sL, gI_sA, gI_sM, gL_sI, gL_sL, gL_sA, gL_sM, aI_sI, aI_sL, aI_sA, aI_sM, aL_sI, aL_sL, aL_sA, aL_sM]; try dsimp only
      refine ⟨fun h6 => ?_, fun h6 => ?_⟩
      · refine hB _ _ _ _ _ (fun m7 hm7 => ?_)
        dsimp only [ugo, uwp, ust, uct, rfd, BlateErr, BlateErr_38, Nat.beq, lv_args, rlk, rs1, rs2, rdl, rky, rcd, rno, rsw, Value.category, List.filter, List.take, List.drop, List.reverse, List.reverseAux, List.cons_append, List.nil_append, Option.toList, Int.toNat, Int.reduceToNat, if_pos, if_neg, reduceIte, ↓reduceIte, Nat.reduceAdd, Nat.reduceEqDiff, Nat.reduceBEq, beq_self_eq_true, Bool.not_true, Bool.not_false, Bool.and_true, Bool.and_false, Bool.true_and, Bool.false_and, gI_sI, gI_sL, gI_sA, gI_sM, gL_sI, gL_sL, gL_sA, gL_sM, aI_sI, aI_sL, aI_sA, aI_sM, aL_sI, aL_sL, aL_sA, aL_sM]; try dsimp only
        unfold Qv_lateErr
        try dsimp only
        exact ⟨rfl, gI σ 112, gI σ 113, by assumption, by rw [sI_id, sI_id]⟩
      · refine hB _ _ _ _ _ (fun m8 hm8 => ?_)
        dsimp only [ugo, uwp, ust, uct, rfd, BlateErr, BlateErr_22, Nat.beq, lv_args, rlk, rs1, rs2, rdl, rky, rcd, rno, rsw, Value.category, List.filter, List.take, List.drop, List.reverse, List.reverseAux, List.cons_append, List.nil_append, Option.toList, Int.toNat, Int.reduceToNat, if_pos, if_neg, reduceIte, ↓reduceIte, Nat.reduceAdd, Nat.reduceEqDiff, Nat.reduceBEq, beq_self_eq_true, Bool.not_true, Bool.not_false, Bool.and_true, Bool.and_false, Bool.true_and, Bool.false_and, gI_sI, gI_sL, gI_sA, gI_sM, gL_sI, gL_sL, gL_sA, gL_sM, aI_sI, aI_sL, aI_sA, aI_sM, aL_sI, aL_sL, aL_sA, aL_sM]; try dsimp only
        refine ⟨fun h9 => ?_, fun h9 => ?_⟩
        · refine hB _ _ _ _ _ (fun m10 hm10 => ?_)
          dsimp only [ugo, uwp, ust, uct, rfd, BlateErr, BlateErr_39, Nat.beq, lv_args, rlk, rs1, rs2, rdl, rky, rcd, rno, rsw, Value.category, List.filter, List.take, List.drop, List.reverse, List.reverseAux, List.cons_append, List.nil_append, Option.toList, Int.toNat, Int.reduceToNat, if_pos, if_neg, reduceIte, ↓reduceIte, Nat.reduceAdd, Nat.reduceEqDiff, Nat.reduceBEq, beq_self_eq_true, Bool.not_true, Bool.not_false, Bool.and_true, Bool.and_false, Bool.true_and, Bool.false_and, gI_sI, gI_sL, gI_sA, gI_sM, gL_sI, gL_sL, gL_sA, gL_sM, aI_sI, aI_sL, aI_sA, aI_sM, aL_sI, aL_sL, aL_sA, aL_sM]; try dsimp only
          unfold Qv_lateErr
          try dsimp only
          exact ⟨rfl, what, _, hP, rfl⟩
        · refine hB _ _ _ _ _ (fun m11 hm11 => ?_)
          dsimp only [ugo, uwp, ust, uct, rfd, BlateErr, BlateErr_30, Nat.beq, lv_args, rlk, rs1, rs2, rdl, rky, rcd, rno, rsw, Value.category, List.filter, List.take, List.drop, List.reverse, List.reverseAux, List.cons_append, List.nil_append, Option.toList, Int.toNat, Int.reduceToNat, if_pos, if_neg, reduceIte, ↓reduceIte, Nat.reduceAdd, Nat.reduceEqDiff, Nat.reduceBEq, beq_self_eq_true, Bool.not_true, Bool.not_false, Bool.and_true, Bool.and_false, Bool.true_and, Bool.false_and, gI_sI, gI_sL, gI_sA, gI_sM, gL_sI, gL_sL, gL_sA, gL_sM, aI_sI, aI_sL, aI_sA, aI_sM, aL_sI, aL_sL, aL_sA, aL_sM]; try dsimp only
          refine ⟨fun h12 => ?_, fun h12 => ?_⟩
          · refine hB _ _ _ _ _ (fun m13 hm13 => ?_)
            dsimp only [ugo, uwp, ust, uct, rfd, BlateErr, BlateErr_39, Nat.beq, lv_args, rlk, rs1, rs2, rdl, rky, rcd, rno, rsw, Value.category, List.filter, List.take, List.drop, List.reverse, List.reverseAux, List.cons_append, List.nil_append, Option.toList, Int.toNat, Int.reduceToNat, if_pos, if_neg, reduceIte, ↓reduceIte, Nat.reduceAdd, Nat.reduceEqDiff, Nat.reduceBEq, beq_self_eq_true, Bool.not_true, Bool.not_false, Bool.and_true, Bool.and_false, Bool.true_and, Bool.false_and, gI_sI, gI_sL, gI_sA, gI_sM, gL_sI, gL_sL, gL_sA, gL_sM, aI_sI, aI_sL, aI_sA, aI_sM, aL_sI, aL_sL, aL_sA, aL_sM]; try dsimp only
            unfold Qv_lateErr
            try dsimp only
            exact ⟨rfl, what, _, hP, rfl⟩
          · refine hB _ _ _ _ _ (fun m14 hm14 => ?_)
            dsimp only [ugo, uwp, ust, uct, rfd, BlateErr, BlateErr_38, Nat.beq, lv_args, rlk, rs1, rs2, rdl, rky, rcd, rno, rsw, Value.category, List.filter, List.take, List.drop, List.reverse, List.reverseAux, List.cons_append, List.nil_append, Option.toList, Int.toNat, Int.reduceToNat, if_pos, if_neg, reduceIte, ↓reduceIte, Nat.reduceAdd, Nat.reduceEqDiff, Nat.reduceBEq, beq_self_eq_true, Bool.not_true, Bool.not_false, Bool.and_true, Bool.and_false, Bool.true_and, Bool.false_and, gI_sI, gI_sL, gI_sA, gI_sM, gL_sI, gL_sL, gL_sA, gL_sM, aI_sI, aI_sL, aI_sA, aI_sM, aL_sI, aL_sL, aL_sA, aL_sM]; try dsimp only
            unfold Qv_lateErr
            try dsimp only
            exact ⟨rfl, gI σ 112, gI σ 113, by assumption, by rw [sI_id, sI_id]⟩
  next => exact hP.elim
theorem w_lateErr : UMet 110 (fun _ _ => True) Qw_lateErr := fun A1 σ _ w τ h hP => v_lateErr A1 σ hP w τ h
def Pv_value : UP1 := fun A1 σ => match A1 with
  | [.int t, .int v] => True
  | _ => False
def Qv_value : UQ1 := fun A1 σ w τ => match A1 with
  | [.int t, .int v] => w = none ∧ ∃ u p : Int32, (¬ u = 0 ↔ (¬ gI σ 114 = 0 ∨ ¬ bitR (nowR σ) v)) ∧ τ = unS σ u p
  | _ => False
def Qw_value : UQ1 := fun A1 σ w τ => Pv_value A1 σ → Qv_value A1 σ w τ
set_option maxRecDepth 100000 in
set_option maxHeartbeats 4000000 in
theorem v_value : UMet 115 (Pv_value) (Qv_value) := by
  refine UMet.by Bvalue [(111, (fun _ _ => True), Qw_now)] rfl (ucc w_now uc0) ?_
  intro A1 σ hP K hB hW
  unfold Pv_value at hP
  split at hP
  next t v =>
    intro n0
    refine hB _ _ _ _ _ (fun m1 hm1 => ?_)
    dsimp only [ugo, uwp, ust, uct, rfd, Bvalue, Bvalue_0, Nat.beq, lv_args, rlk, rs1, rs2, rdl, rky, rcd, rno, rsw, Value.category, List.filter, List.take, List.drop, List.reverse, List.reverseAux, List.cons_append, List.nil_append, Option.toList, Int.toNat, Int.reduceToNat, if_pos, if_neg, reduceIte, ↓reduceIte, Nat.reduceAdd, Nat.reduceEqDiff, Nat.reduceBEq, beq_self_eq_true, Bool.not_true, Bool.not_false, Bool.and_true, Bool.and_false, Bool.true_and, Bool.false_and, gI_sI, gI_sL, gI_sA, gI_sM, gL_sI, gL_sL, gL_sA, gL_sM, aI_sI, aI_sL, aI_sA, aI_sM, aL_sI, aL_sL, aL_sA, aL_sM]; try dsimp only
    refine ⟨trivial, fun w2 τ2 hq2 => ?_⟩
    obtain ⟨rfl, rfl⟩ := hq2 trivial
    dsimp only [Option.toList, List.cons_append, List.nil_append, Nat.beq, gI_sI, gI_sL, gI_sA, gI_sM, gL_sI, gL_sL, gL_sA, gL_sM, aI_sI, aI_sL, aI_sA, aI_sM, aL_sI, aL_sL, aL_sA, aL_sM]
    refine ⟨fun h3 => ?_, fun h3 => ?_⟩
    · have c3 : ¬ (((nowR σ) >>> ((v).toInt64 &&& 63)) &&& (1 : Int64)) = (1 : Int64) := fun q => h3 ((cL (a := (1 : Int64)) (b := (((nowR σ) >>> ((v).toInt64 &&& 63)) &&& (1 : Int64)))).1.mpr q)
      refine hB _ _ _ _ _ (fun m4 hm4 => ?_)
      dsimp only [ugo, uwp, ust, uct, rfd, Bvalue, Bvalue_14, Nat.beq, lv_args, rlk, rs1, rs2, rdl, rky, rcd, rno, rsw, Value.category, List.filter, List.take, List.drop, List.reverse, List.reverseAux, List.cons_append, List.nil_append, Option.toList, Int.toNat, Int.reduceToNat, if_pos, if_neg, reduceIte, ↓reduceIte, Nat.reduceAdd, Nat.reduceEqDiff, Nat.reduceBEq, beq_self_eq_true, Bool.not_true, Bool.not_false, Bool.and_true, Bool.and_false, Bool.true_and, Bool.false_and, gI_sI, gI_sL, gI_sA, gI_sM, gL_sI, gL_sL, gL_sA, gL_sM, aI_sI, aI_sL, aI_sA, aI_sM, aL_sI, aL_sL, aL_sA, aL_sM]; try dsimp only
      refine ⟨fun h5 => ?_, fun h5 => ?_⟩
      · refine hB _ _ _ _ _ (fun m6 hm6 => ?_)
        dsimp only [ugo, uwp, ust, uct, rfd, Bvalue, Bvalue_34, Nat.beq, lv_args, rlk, rs1, rs2, rdl, rky, rcd, rno, rsw, Value.category, List.filter, List.take, List.drop, List.reverse, List.reverseAux, List.cons_append, List.nil_append, Option.toList, Int.toNat, Int.reduceToNat, if_pos, if_neg, reduceIte, ↓reduceIte, Nat.reduceAdd, Nat.reduceEqDiff, Nat.reduceBEq, beq_self_eq_true, Bool.not_true, Bool.not_false, Bool.and_true, Bool.and_false, Bool.true_and, Bool.false_and, gI_sI, gI_sL, gI_sA, gI_sM, gL_sI, gL_sL, gL_sA, gL_sM, aI_sI, aI_sL, aI_sA, aI_sM, aL_sI, aL_sL, aL_sA, aL_sM, oi_15]; try dsimp only
        intro p7
        refine hB _ _ _ _ _ (fun m8 hm8 => ?_)
        dsimp only [ugo, uwp, ust, uct, rfd, Bvalue, Bvalue_50, Nat.beq, lv_args, rlk, rs1, rs2, rdl, rky, rcd, rno, rsw, Value.category, List.filter, List.take, List.drop, List.reverse, List.reverseAux, List.cons_append, List.nil_append, Option.toList, Int.toNat, Int.reduceToNat, if_pos, if_neg, reduceIte, ↓reduceIte, Nat.reduceAdd, Nat.reduceEqDiff, Nat.reduceBEq, beq_self_eq_true, Bool.not_true, Bool.not_false, Bool.and_true, Bool.and_false, Bool.true_and, Bool.false_and, gI_sI, gI_sL, gI_sA, gI_sM, gL_sI, gL_sL, gL_sA, gL_sM, aI_sI, aI_sL, aI_sA, aI_sM, aL_sI, aL_sL, aL_sA, aL_sM]; try dsimp only
        unfold Qv_value
        try dsimp only
        exact ⟨rfl, 15, _, ⟨fun _ => Or.inr (by assumption), fun _ => by decide⟩, rfl⟩
      · refine hB _ _ _ _ _ (fun m9 hm9 => ?_)
        dsimp only [ugo, uwp, ust, uct, rfd, Bvalue, Bvalue_21, Nat.beq, lv_args, rlk, rs1, rs2, rdl, rky, rcd, rno, rsw, Value.category, List.filter, List.take, List.drop, List.reverse, List.reverseAux, List.cons_append, List.nil_append, Option.toList, Int.toNat, Int.reduceToNat, if_pos, if_neg, reduceIte, ↓reduceIte, Nat.reduceAdd, Nat.reduceEqDiff, Nat.reduceBEq, beq_self_eq_true, Bool.not_true, Bool.not_false, Bool.and_true, Bool.and_false, Bool.true_and, Bool.false_and, gI_sI, gI_sL, gI_sA, gI_sM, gL_sI, gL_sL, gL_sA, gL_sM, aI_sI, aI_sL, aI_sA, aI_sM, aL_sI, aL_sL, aL_sA, aL_sM]; try dsimp only
        intro p10
        refine ⟨fun h11 => ?_, fun h11 => ?_⟩
        · refine hB _ _ _ _ _ (fun m12 hm12 => ?_)
          dsimp only [ugo, uwp, ust, uct, rfd, Bvalue, Bvalue_50, Nat.beq, lv_args, rlk, rs1, rs2, rdl, rky, rcd, rno, rsw, Value.category, List.filter, List.take, List.drop, List.reverse, List.reverseAux, List.cons_append, List.nil_append, Option.toList, Int.toNat, Int.reduceToNat, if_pos, if_neg, reduceIte, ↓reduceIte, Nat.reduceAdd, Nat.reduceEqDiff, Nat.reduceBEq, beq_self_eq_true, Bool.not_true, Bool.not_false, Bool.and_true, Bool.and_false, Bool.true_and, Bool.false_and, gI_sI, gI_sL, gI_sA, gI_sM, gL_sI, gL_sL, gL_sA, gL_sM, aI_sI, aI_sL, aI_sA, aI_sM, aL_sI, aL_sL, aL_sA, aL_sM]; try dsimp only
          unfold Qv_value
          try dsimp only
          exact ⟨rfl, gI σ 114, gI σ 115, ⟨fun q => Or.inl q, fun _ => by assumption⟩, by unfold unS; rw [sI_id, sI_id]⟩
        · refine hB _ _ _ _ _ (fun m13 hm13 => ?_)
          dsimp only [ugo, uwp, ust, uct, rfd, Bvalue, Bvalue_34, Nat.beq, lv_args, rlk, rs1, rs2, rdl, rky, rcd, rno, rsw, Value.category, List.filter, List.take, List.drop, List.reverse, List.reverseAux, List.cons_append, List.nil_append, Option.toList, Int.toNat, Int.reduceToNat, if_pos, if_neg, reduceIte, ↓reduceIte, Nat.reduceAdd, Nat.reduceEqDiff, Nat.reduceBEq, beq_self_eq_true, Bool.not_true, Bool.not_false, Bool.and_true, Bool.and_false, Bool.true_and, Bool.false_and, gI_sI, gI_sL, gI_sA, gI_sM, gL_sI, gL_sL, gL_sA, gL_sM, aI_sI, aI_sL, aI_sA, aI_sM, aL_sI, aL_sL, aL_sA, aL_sM, oi_15]; try dsimp only
          intro p14
          refine hB _ _ _ _ _ (fun m15 hm15 => ?_)
          dsimp only [ugo, uwp, ust, uct, rfd, Bvalue, Bvalue_50, Nat.beq, lv_args, rlk, rs1, rs2, rdl, rky, rcd, rno, rsw, Value.category, List.filter, List.take, List.drop, List.reverse, List.reverseAux, List.cons_append, List.nil_append, Option.toList, Int.toNat, Int.reduceToNat, if_pos, if_neg, reduceIte, ↓reduceIte, Nat.reduceAdd, Nat.reduceEqDiff, Nat.reduceBEq, beq_self_eq_true, Bool.not_true, Bool.not_false, Bool.and_true, Bool.and_false, Bool.true_and, Bool.false_and, gI_sI, gI_sL, gI_sA, gI_sM, gL_sI, gL_sL, gL_sA, gL_sM, aI_sI, aI_sL, aI_sA, aI_sM, aL_sI, aL_sL, aL_sA, aL_sM]; try dsimp only
          unfold Qv_value
          try dsimp only
          exact ⟨rfl, 15, _, ⟨fun _ => Or.inr (by assumption), fun _ => by decide⟩, rfl⟩
    · have c3 : (((nowR σ) >>> ((v).toInt64 &&& 63)) &&& (1 : Int64)) = (1 : Int64) := (cL (a := (1 : Int64)) (b := (((nowR σ) >>> ((v).toInt64 &&& 63)) &&& (1 : Int64)))).1.mp h3
      refine hB _ _ _ _ _ (fun m16 hm16 => ?_)
      dsimp only [ugo, uwp, ust, uct, rfd, Bvalue, Bvalue_13, Nat.beq, lv_args, rlk, rs1, rs2, rdl, rky, rcd, rno, rsw, Value.category, List.filter, List.take, List.drop, List.reverse, List.reverseAux, List.cons_append, List.nil_append, Option.toList, Int.toNat, Int.reduceToNat, if_pos, if_neg, reduceIte, ↓reduceIte, Nat.reduceAdd, Nat.reduceEqDiff, Nat.reduceBEq, beq_self_eq_true, Bool.not_true, Bool.not_false, Bool.and_true, Bool.and_false, Bool.true_and, Bool.false_and, gI_sI, gI_sL, gI_sA, gI_sM, gL_sI, gL_sL, gL_sA, gL_sM, aI_sI, aI_sL, aI_sA, aI_sM, aL_sI, aL_sL, aL_sA, aL_sM]; try dsimp only
      unfold Qv_value
      try dsimp only
      exact ⟨rfl, gI σ 114, gI σ 115, ⟨fun q => Or.inl q, fun q => q.elim id (fun z => absurd (by assumption) z)⟩, by unfold unS; rw [sI_id, sI_id]⟩
  next => exact hP.elim
theorem w_value : UMet 115 (fun _ _ => True) Qw_value := fun A1 σ _ w τ h hP => v_value A1 σ hP w τ h
def Pv_sided : UP1 := fun A1 σ => match A1 with
  | [.int c] => True
  | _ => False
def Qv_sided : UQ1 := fun A1 σ w τ => match A1 with
  | [.int c] => w = none ∧ τ = sidS σ c
  | _ => False
def Qw_sided : UQ1 := fun A1 σ w τ => Pv_sided A1 σ → Qv_sided A1 σ w τ
set_option maxRecDepth 100000 in
set_option maxHeartbeats 4000000 in
theorem v_sided : UMet 116 (Pv_sided) (Qv_sided) := by
  refine UMet.by Bsided [(112, (fun _ _ => True), Qw_be), (111, (fun _ _ => True), Qw_now)] rfl (ucc w_be (ucc w_now uc0)) ?_
  intro A1 σ hP K hB hW
  unfold Pv_sided at hP
  split at hP
  next c =>
    intro n0
    refine hB _ _ _ _ _ (fun m1 hm1 => ?_)
    dsimp only [ugo, uwp, ust, uct, rfd, Bsided, Bsided_0, Nat.beq, lv_args, rlk, rs1, rs2, rdl, rky, rcd, rno, rsw, Value.category, List.filter, List.take, List.drop, List.reverse, List.reverseAux, List.cons_append, List.nil_append, Option.toList, Int.toNat, Int.reduceToNat, if_pos, if_neg, reduceIte, ↓reduceIte, Nat.reduceAdd, Nat.reduceEqDiff, Nat.reduceBEq, beq_self_eq_true, Bool.not_true, Bool.not_false, Bool.and_true, Bool.and_false, Bool.true_and, Bool.false_and, gI_sI, gI_sL, gI_sA, gI_sM, gL_sI, gL_sL, gL_sA, gL_sM, aI_sI, aI_sL, aI_sA, aI_sM, aL_sI, aL_sL, aL_sA, aL_sM]; try dsimp only
    refine ⟨trivial, fun w2 τ2 hq2 => ?_⟩
    obtain ⟨rfl, rfl⟩ := hq2 trivial
    dsimp only [Option.toList, List.cons_append, List.nil_append, Nat.beq, gI_sI, gI_sL, gI_sA, gI_sM, gL_sI, gL_sL, gL_sA, gL_sM, aI_sI, aI_sL, aI_sA, aI_sM, aL_sI, aL_sL, aL_sA, aL_sM]
    refine ⟨trivial, fun w3 τ3 hq3 => ?_⟩
    obtain ⟨rfl, rfl⟩ := hq3 trivial
    dsimp only [Option.toList, List.cons_append, List.nil_append, Nat.beq, gI_sI, gI_sL, gI_sA, gI_sM, gL_sI, gL_sL, gL_sA, gL_sM, aI_sI, aI_sL, aI_sA, aI_sM, aL_sI, aL_sL, aL_sA, aL_sM]
    intro p4
    refine ⟨fun h5 => ?_, fun h5 => ?_⟩
    · refine hB _ _ _ _ _ (fun m6 hm6 => ?_)
      dsimp only [ugo, uwp, ust, uct, rfd, Bsided, Bsided_28, Nat.beq, lv_args, rlk, rs1, rs2, rdl, rky, rcd, rno, rsw, Value.category, List.filter, List.take, List.drop, List.reverse, List.reverseAux, List.cons_append, List.nil_append, Option.toList, Int.toNat, Int.reduceToNat, if_pos, if_neg, reduceIte, ↓reduceIte, Nat.reduceAdd, Nat.reduceEqDiff, Nat.reduceBEq, beq_self_eq_true, Bool.not_true, Bool.not_false, Bool.and_true, Bool.and_false, Bool.true_and, Bool.false_and, gI_sI, gI_sL, gI_sA, gI_sM, gL_sI, gL_sL, gL_sA, gL_sM, aI_sI, aI_sL, aI_sA, aI_sM, aL_sI, aL_sL, aL_sA, aL_sM]; try dsimp only
      unfold Qv_sided
      try dsimp only
      refine ⟨rfl, ?_⟩
      unfold sidS
      rw [if_pos (by first | exact Or.inl (by assumption) | exact Or.inr (by assumption))]
    · refine hB _ _ _ _ _ (fun m7 hm7 => ?_)
      dsimp only [ugo, uwp, ust, uct, rfd, Bsided, Bsided_19, Nat.beq, lv_args, rlk, rs1, rs2, rdl, rky, rcd, rno, rsw, Value.category, List.filter, List.take, List.drop, List.reverse, List.reverseAux, List.cons_append, List.nil_append, Option.toList, Int.toNat, Int.reduceToNat, if_pos, if_neg, reduceIte, ↓reduceIte, Nat.reduceAdd, Nat.reduceEqDiff, Nat.reduceBEq, beq_self_eq_true, Bool.not_true, Bool.not_false, Bool.and_true, Bool.and_false, Bool.true_and, Bool.false_and, gI_sI, gI_sL, gI_sA, gI_sM, gL_sI, gL_sL, gL_sA, gL_sM, aI_sI, aI_sL, aI_sA, aI_sM, aL_sI, aL_sL, aL_sA, aL_sM]; try dsimp only
      intro p8
      refine ⟨fun h9 => ?_, fun h9 => ?_⟩
      · refine hB _ _ _ _ _ (fun m10 hm10 => ?_)
        dsimp only [ugo, uwp, ust, uct, rfd, Bsided, Bsided_29, Nat.beq, lv_args, rlk, rs1, rs2, rdl, rky, rcd, rno, rsw, Value.category, List.filter, List.take, List.drop, List.reverse, List.reverseAux, List.cons_append, List.nil_append, Option.toList, Int.toNat, Int.reduceToNat, if_pos, if_neg, reduceIte, ↓reduceIte, Nat.reduceAdd, Nat.reduceEqDiff, Nat.reduceBEq, beq_self_eq_true, Bool.not_true, Bool.not_false, Bool.and_true, Bool.and_false, Bool.true_and, Bool.false_and, gI_sI, gI_sL, gI_sA, gI_sM, gL_sI, gL_sL, gL_sA, gL_sM, aI_sI, aI_sL, aI_sA, aI_sM, aL_sI, aL_sL, aL_sA, aL_sM]; try dsimp only
        intro p11
        refine ⟨fun h12 => ?_, fun h12 => ?_⟩
        · have c12 : ((aL (beS σ (nowR σ)) 85) (c).toNatClampNeg) = (0 : Int64) := (cL (a := (0 : Int64)) (b := ((aL (beS σ (nowR σ)) 85) (c).toNatClampNeg))).1.mp h12
          refine hB _ _ _ _ _ (fun m13 hm13 => ?_)
          dsimp only [ugo, uwp, ust, uct, rfd, Bsided, Bsided_50, Nat.beq, lv_args, rlk, rs1, rs2, rdl, rky, rcd, rno, rsw, Value.category, List.filter, List.take, List.drop, List.reverse, List.reverseAux, List.cons_append, List.nil_append, Option.toList, Int.toNat, Int.reduceToNat, if_pos, if_neg, reduceIte, ↓reduceIte, Nat.reduceAdd, Nat.reduceEqDiff, Nat.reduceBEq, beq_self_eq_true, Bool.not_true, Bool.not_false, Bool.and_true, Bool.and_false, Bool.true_and, Bool.false_and, gI_sI, gI_sL, gI_sA, gI_sM, gL_sI, gL_sL, gL_sA, gL_sM, aI_sI, aI_sL, aI_sA, aI_sM, aL_sI, aL_sL, aL_sA, aL_sM]; try dsimp only
          refine hB _ _ _ _ _ (fun m14 hm14 => ?_)
          dsimp only [ugo, uwp, ust, uct, rfd, Bsided, Bsided_57, Nat.beq, lv_args, rlk, rs1, rs2, rdl, rky, rcd, rno, rsw, Value.category, List.filter, List.take, List.drop, List.reverse, List.reverseAux, List.cons_append, List.nil_append, Option.toList, Int.toNat, Int.reduceToNat, if_pos, if_neg, reduceIte, ↓reduceIte, Nat.reduceAdd, Nat.reduceEqDiff, Nat.reduceBEq, beq_self_eq_true, Bool.not_true, Bool.not_false, Bool.and_true, Bool.and_false, Bool.true_and, Bool.false_and, gI_sI, gI_sL, gI_sA, gI_sM, gL_sI, gL_sL, gL_sA, gL_sM, aI_sI, aI_sL, aI_sA, aI_sM, aL_sI, aL_sL, aL_sA, aL_sM]; try dsimp only
          unfold Qv_sided
          try dsimp only
          refine ⟨rfl, ?_⟩
          unfold sidS
          rw [if_neg (fun q => q.elim (fun z => z (by assumption)) (fun z => absurd z (by assumption))), if_pos (by assumption)]
        · have c12 : ¬ ((aL (beS σ (nowR σ)) 85) (c).toNatClampNeg) = (0 : Int64) := fun q => h12 ((cL (a := (0 : Int64)) (b := ((aL (beS σ (nowR σ)) 85) (c).toNatClampNeg))).1.mpr q)
          refine hB _ _ _ _ _ (fun m15 hm15 => ?_)
          dsimp only [ugo, uwp, ust, uct, rfd, Bsided, Bsided_40, Nat.beq, lv_args, rlk, rs1, rs2, rdl, rky, rcd, rno, rsw, Value.category, List.filter, List.take, List.drop, List.reverse, List.reverseAux, List.cons_append, List.nil_append, Option.toList, Int.toNat, Int.reduceToNat, if_pos, if_neg, reduceIte, ↓reduceIte, Nat.reduceAdd, Nat.reduceEqDiff, Nat.reduceBEq, beq_self_eq_true, Bool.not_true, Bool.not_false, Bool.and_true, Bool.and_false, Bool.true_and, Bool.false_and, gI_sI, gI_sL, gI_sA, gI_sM, gL_sI, gL_sL, gL_sA, gL_sM, aI_sI, aI_sL, aI_sA, aI_sM, aL_sI, aL_sL, aL_sA, aL_sM]; try dsimp only
          refine hB _ _ _ _ _ (fun m16 hm16 => ?_)
          dsimp only [ugo, uwp, ust, uct, rfd, Bsided, Bsided_57, Nat.beq, lv_args, rlk, rs1, rs2, rdl, rky, rcd, rno, rsw, Value.category, List.filter, List.take, List.drop, List.reverse, List.reverseAux, List.cons_append, List.nil_append, Option.toList, Int.toNat, Int.reduceToNat, if_pos, if_neg, reduceIte, ↓reduceIte, Nat.reduceAdd, Nat.reduceEqDiff, Nat.reduceBEq, beq_self_eq_true, Bool.not_true, Bool.not_false, Bool.and_true, Bool.and_false, Bool.true_and, Bool.false_and, gI_sI, gI_sL, gI_sA, gI_sM, gL_sI, gL_sL, gL_sA, gL_sM, aI_sI, aI_sL, aI_sA, aI_sM, aL_sI, aL_sL, aL_sA, aL_sM]; try dsimp only
          unfold Qv_sided
          try dsimp only
          refine ⟨rfl, ?_⟩
          unfold sidS
          rw [if_neg (fun q => q.elim (fun z => z (by assumption)) (fun z => absurd z (by assumption))), if_neg (by assumption)]
      · refine hB _ _ _ _ _ (fun m17 hm17 => ?_)
        dsimp only [ugo, uwp, ust, uct, rfd, Bsided, Bsided_28, Nat.beq, lv_args, rlk, rs1, rs2, rdl, rky, rcd, rno, rsw, Value.category, List.filter, List.take, List.drop, List.reverse, List.reverseAux, List.cons_append, List.nil_append, Option.toList, Int.toNat, Int.reduceToNat, if_pos, if_neg, reduceIte, ↓reduceIte, Nat.reduceAdd, Nat.reduceEqDiff, Nat.reduceBEq, beq_self_eq_true, Bool.not_true, Bool.not_false, Bool.and_true, Bool.and_false, Bool.true_and, Bool.false_and, gI_sI, gI_sL, gI_sA, gI_sM, gL_sI, gL_sL, gL_sA, gL_sM, aI_sI, aI_sL, aI_sA, aI_sM, aL_sI, aL_sL, aL_sA, aL_sM]; try dsimp only
        unfold Qv_sided
        try dsimp only
        refine ⟨rfl, ?_⟩
        unfold sidS
        rw [if_pos (by first | exact Or.inl (by assumption) | exact Or.inr (by assumption))]
  next => exact hP.elim
theorem w_sided : UMet 116 (fun _ _ => True) Qw_sided := fun A1 σ _ w τ h hP => v_sided A1 σ hP w τ h
def Pv_findAt : UP1 := fun A1 σ => match A1 with
  | [.int c] => True
  | _ => False
def Qv_findAt : UQ1 := fun A1 σ w τ => match A1 with
  | [.int c] => σ = τ ∧ ∃ r : Int32, w = some (.int r) ∧ r = aI σ 80 (aI σ 22 c.toNatClampNeg).toNatClampNeg
  | _ => False
def Qw_findAt : UQ1 := fun A1 σ w τ => Pv_findAt A1 σ → Qv_findAt A1 σ w τ
set_option maxRecDepth 100000 in
set_option maxHeartbeats 4000000 in
theorem v_findAt : UMet 118 (Pv_findAt) (Qv_findAt) := by
  refine UMet.by BfindAt [] rfl uc0 ?_
  intro A1 σ hP K hB hW
  unfold Pv_findAt at hP
  split at hP
  next c =>
    intro n0
    refine hB _ _ _ _ _ (fun m1 hm1 => ?_)
    dsimp only [ugo, uwp, ust, uct, rfd, BfindAt, BfindAt_0, Nat.beq, lv_args, rlk, rs1, rs2, rdl, rky, rcd, rno, rsw, Value.category, List.filter, List.take, List.drop, List.reverse, List.reverseAux, List.cons_append, List.nil_append, Option.toList, Int.toNat, Int.reduceToNat, if_pos, if_neg, reduceIte, ↓reduceIte, Nat.reduceAdd, Nat.reduceEqDiff, Nat.reduceBEq, beq_self_eq_true, Bool.not_true, Bool.not_false, Bool.and_true, Bool.and_false, Bool.true_and, Bool.false_and, gI_sI, gI_sL, gI_sA, gI_sM, gL_sI, gL_sL, gL_sA, gL_sM, aI_sI, aI_sL, aI_sA, aI_sM, aL_sI, aL_sL, aL_sA, aL_sM]; try dsimp only
    intro p2
    intro p3
    unfold Qv_findAt
    try dsimp only
    exact ⟨rfl, _, rfl, rfl⟩
  next => exact hP.elim
theorem w_findAt : UMet 118 (fun _ _ => True) Qw_findAt := fun A1 σ _ w τ h hP => v_findAt A1 σ hP w τ h
def Pv_dead : UP1 := fun A1 σ => match A1 with
  | [] => True
  | _ => False
def Qv_dead : UQ1 := fun A1 σ w τ => match A1 with
  | [] => w = none ∧ τ = beS (sI σ 92 0) (Int64.ofInt (-1))
  | _ => False
def Qw_dead : UQ1 := fun A1 σ w τ => Pv_dead A1 σ → Qv_dead A1 σ w τ
set_option maxRecDepth 100000 in
set_option maxHeartbeats 4000000 in
theorem v_dead : UMet 120 (Pv_dead) (Qv_dead) := by
  refine UMet.by Bdead [(112, (fun _ _ => True), Qw_be)] rfl (ucc w_be uc0) ?_
  intro A1 σ hP K hB hW
  unfold Pv_dead at hP
  split at hP
  next =>
    intro n0
    refine hB _ _ _ _ _ (fun m1 hm1 => ?_)
    dsimp only [ugo, uwp, ust, uct, rfd, Bdead, Bdead_0, Nat.beq, lv_args, rlk, rs1, rs2, rdl, rky, rcd, rno, rsw, Value.category, List.filter, List.take, List.drop, List.reverse, List.reverseAux, List.cons_append, List.nil_append, Option.toList, Int.toNat, Int.reduceToNat, if_pos, if_neg, reduceIte, ↓reduceIte, Nat.reduceAdd, Nat.reduceEqDiff, Nat.reduceBEq, beq_self_eq_true, Bool.not_true, Bool.not_false, Bool.and_true, Bool.and_false, Bool.true_and, Bool.false_and, gI_sI, gI_sL, gI_sA, gI_sM, gL_sI, gL_sL, gL_sA, gL_sM, aI_sI, aI_sL, aI_sA, aI_sM, aL_sI, aL_sL, aL_sA, aL_sM, oi_0]; try dsimp only
    refine ⟨trivial, fun w2 τ2 hq2 => ?_⟩
    obtain ⟨rfl, rfl⟩ := hq2 trivial
    dsimp only [Option.toList, List.cons_append, List.nil_append, Nat.beq, gI_sI, gI_sL, gI_sA, gI_sM, gL_sI, gL_sL, gL_sA, gL_sM, aI_sI, aI_sL, aI_sA, aI_sM, aL_sI, aL_sL, aL_sA, aL_sM]
    unfold Qv_dead
    try dsimp only
    exact ⟨rfl, rfl⟩
  next => exact hP.elim
theorem w_dead : UMet 120 (fun _ _ => True) Qw_dead := fun A1 σ _ w τ h hP => v_dead A1 σ hP w τ h
def Pv_flowExp : UP1 := fun A1 σ => match A1 with
  | [.int c] => True
  | _ => False
def Qv_flowExp : UQ1 := fun A1 σ w τ => match A1 with
  | [.int c] => w = none ∧ ∃ u p : Int32, (¬ u = 0 ↔ (¬ gI σ 114 = 0 ∨ uvR σ c)) ∧ τ = fxS (unS σ u p) c
  | _ => False
def Qw_flowExp : UQ1 := fun A1 σ w τ => Pv_flowExp A1 σ → Qv_flowExp A1 σ w τ
set_option maxRecDepth 100000 in
set_option maxHeartbeats 4000000 in
theorem v_flowExp : UMet 117 (Pv_flowExp) (Qv_flowExp) := by
  refine UMet.by BflowExp [(112, (fun _ _ => True), Qw_be), (118, (fun _ _ => True), Qw_findAt), (111, (fun _ _ => True), Qw_now), (116, (fun _ _ => True), Qw_sided), (115, (fun _ _ => True), Qw_value)] rfl (ucc w_be (ucc w_findAt (ucc w_now (ucc w_sided (ucc w_value uc0))))) ?_
  intro A1 σ hP K hB hW
  unfold Pv_flowExp at hP
  split at hP
  next c =>
    intro n0
    refine hB _ _ _ _ _ (fun m1 hm1 => ?_)
    dsimp only [ugo, uwp, ust, uct, rfd, BflowExp, BflowExp_0, Nat.beq, lv_args, rlk, rs1, rs2, rdl, rky, rcd, rno, rsw, Value.category, List.filter, List.take, List.drop, List.reverse, List.reverseAux, List.cons_append, List.nil_append, Option.toList, Int.toNat, Int.reduceToNat, if_pos, if_neg, reduceIte, ↓reduceIte, Nat.reduceAdd, Nat.reduceEqDiff, Nat.reduceBEq, beq_self_eq_true, Bool.not_true, Bool.not_false, Bool.and_true, Bool.and_false, Bool.true_and, Bool.false_and, gI_sI, gI_sL, gI_sA, gI_sM, gL_sI, gL_sL, gL_sA, gL_sM, aI_sI, aI_sL, aI_sA, aI_sM, aL_sI, aL_sL, aL_sA, aL_sM]; try dsimp only
    intro p2
    refine ⟨fun h3 => ?_, fun h3 => ?_⟩
    · have c3 : (aI σ 19 c.toNatClampNeg).toInt = 2 := (rfl : (aI σ 19 c.toNatClampNeg).toInt = (aI σ 19 c.toNatClampNeg).toInt).symm.trans h3
      refine hB _ _ _ _ _ (fun m4 hm4 => ?_)
      dsimp only [ugo, uwp, ust, uct, rfd, BflowExp, BflowExp_84, Nat.beq, lv_args, rlk, rs1, rs2, rdl, rky, rcd, rno, rsw, Value.category, List.filter, List.take, List.drop, List.reverse, List.reverseAux, List.cons_append, List.nil_append, Option.toList, Int.toNat, Int.reduceToNat, if_pos, if_neg, reduceIte, ↓reduceIte, Nat.reduceAdd, Nat.reduceEqDiff, Nat.reduceBEq, beq_self_eq_true, Bool.not_true, Bool.not_false, Bool.and_true, Bool.and_false, Bool.true_and, Bool.false_and, gI_sI, gI_sL, gI_sA, gI_sM, gL_sI, gL_sL, gL_sA, gL_sM, aI_sI, aI_sL, aI_sA, aI_sM, aL_sI, aL_sL, aL_sA, aL_sM]; try dsimp only
      intro p5
      intro p6
      refine ⟨fun h7 => ?_, fun h7 => ?_⟩
      · refine hB _ _ _ _ _ (fun m8 hm8 => ?_)
        dsimp only [ugo, uwp, ust, uct, rfd, BflowExp, BflowExp_112, Nat.beq, lv_args, rlk, rs1, rs2, rdl, rky, rcd, rno, rsw, Value.category, List.filter, List.take, List.drop, List.reverse, List.reverseAux, List.cons_append, List.nil_append, Option.toList, Int.toNat, Int.reduceToNat, if_pos, if_neg, reduceIte, ↓reduceIte, Nat.reduceAdd, Nat.reduceEqDiff, Nat.reduceBEq, beq_self_eq_true, Bool.not_true, Bool.not_false, Bool.and_true, Bool.and_false, Bool.true_and, Bool.false_and, gI_sI, gI_sL, gI_sA, gI_sM, gL_sI, gL_sL, gL_sA, gL_sM, aI_sI, aI_sL, aI_sA, aI_sM, aL_sI, aL_sL, aL_sA, aL_sM]; try dsimp only
        intro p9
        intro p10
        refine ⟨trivial, fun w11 τ11 hq11 => ?_⟩
        obtain ⟨rfl, u11, p11_, hu11, rfl⟩ := hq11 trivial
        dsimp only [Option.toList, List.cons_append, List.nil_append, Nat.beq, gI_sI, gI_sL, gI_sA, gI_sM, gL_sI, gL_sL, gL_sA, gL_sM, aI_sI, aI_sL, aI_sA, aI_sM, aL_sI, aL_sL, aL_sA, aL_sM]
        refine hB _ _ _ _ _ (fun m12 hm12 => ?_)
        dsimp only [ugo, uwp, ust, uct, rfd, BflowExp, BflowExp_128, Nat.beq, lv_args, rlk, rs1, rs2, rdl, rky, rcd, rno, rsw, Value.category, List.filter, List.take, List.drop, List.reverse, List.reverseAux, List.cons_append, List.nil_append, Option.toList, Int.toNat, Int.reduceToNat, if_pos, if_neg, reduceIte, ↓reduceIte, Nat.reduceAdd, Nat.reduceEqDiff, Nat.reduceBEq, beq_self_eq_true, Bool.not_true, Bool.not_false, Bool.and_true, Bool.and_false, Bool.true_and, Bool.false_and, gI_sI, gI_sL, gI_sA, gI_sM, gL_sI, gL_sL, gL_sA, gL_sM, aI_sI, aI_sL, aI_sA, aI_sM, aL_sI, aL_sL, aL_sA, aL_sM]; try dsimp only
        refine ⟨trivial, fun w13 τ13 hq13 => ?_⟩
        obtain ⟨rfl, rfl⟩ := hq13 trivial
        dsimp only [Option.toList, List.cons_append, List.nil_append, Nat.beq, gI_sI, gI_sL, gI_sA, gI_sM, gL_sI, gL_sL, gL_sA, gL_sM, aI_sI, aI_sL, aI_sA, aI_sM, aL_sI, aL_sL, aL_sA, aL_sM]
        unfold Qv_flowExp
        try dsimp only
        have ho : aI σ 19 c.toNatClampNeg = 2 := (i32_kk (K := 2) rfl rfl).mpr (by omega)
        refine ⟨rfl, u11, p11_, ⟨fun q => (hu11.mp q).imp id (fun z => Or.inl ⟨ho, (by intro y; first | exact absurd (by assumption) y.1 | exact absurd (by assumption) y.2), z⟩), fun q => hu11.mpr (q.imp id (fun z => z.elim (fun y => y.2.2) (fun y => y.elim (fun x => absurd (x.1) (by rw [ho]; decide)) (fun x => absurd x.1 (by rw [ho]; decide)))))⟩, ?_⟩
        unfold fxS
        have ho2 : aI (unS σ u11 p11_) 19 c.toNatClampNeg = 2 := ho
        rw [if_neg (show ¬ (aI (unS σ u11 p11_) 19 c.toNatClampNeg = 3 ∨ aI (unS σ u11 p11_) 19 c.toNatClampNeg = 4 ∨ aI (unS σ u11 p11_) 19 c.toNatClampNeg = 16) by rw [ho2]; decide), if_neg (fun z => absurd (show aI (unS σ u11 p11_) 19 c.toNatClampNeg = 5 from z.1) (by rw [ho2]; decide)), if_neg (show ¬ aI (unS σ u11 p11_) 19 c.toNatClampNeg = 15 by rw [ho2]; decide), if_neg (show ¬ (aI (unS σ u11 p11_) 19 c.toNatClampNeg = 8 ∨ aI (unS σ u11 p11_) 19 c.toNatClampNeg = 12) by rw [ho2]; decide), if_neg (show ¬ aI (unS σ u11 p11_) 19 c.toNatClampNeg = 9 by rw [ho2]; decide), if_neg (show ¬ aI (unS σ u11 p11_) 19 c.toNatClampNeg = 10 by rw [ho2]; decide), if_neg (show ¬ aI (unS σ u11 p11_) 19 c.toNatClampNeg = 11 by rw [ho2]; decide), if_neg (show ¬ aI (unS σ u11 p11_) 19 c.toNatClampNeg = 13 by rw [ho2]; decide), if_neg (show ¬ aI (unS σ u11 p11_) 19 c.toNatClampNeg = 14 by rw [ho2]; decide), if_neg (show ¬ aI (unS σ u11 p11_) 19 c.toNatClampNeg = 17 by rw [ho2]; decide)]
        all_goals rfl
      · refine hB _ _ _ _ _ (fun m14 hm14 => ?_)
        dsimp only [ugo, uwp, ust, uct, rfd, BflowExp, BflowExp_98, Nat.beq, lv_args, rlk, rs1, rs2, rdl, rky, rcd, rno, rsw, Value.category, List.filter, List.take, List.drop, List.reverse, List.reverseAux, List.cons_append, List.nil_append, Option.toList, Int.toNat, Int.reduceToNat, if_pos, if_neg, reduceIte, ↓reduceIte, Nat.reduceAdd, Nat.reduceEqDiff, Nat.reduceBEq, beq_self_eq_true, Bool.not_true, Bool.not_false, Bool.and_true, Bool.and_false, Bool.true_and, Bool.false_and, gI_sI, gI_sL, gI_sA, gI_sM, gL_sI, gL_sL, gL_sA, gL_sM, aI_sI, aI_sL, aI_sA, aI_sM, aL_sI, aL_sL, aL_sA, aL_sM]; try dsimp only
        intro p15
        intro p16
        refine ⟨fun h17 => ?_, fun h17 => ?_⟩
        · refine hB _ _ _ _ _ (fun m18 hm18 => ?_)
          dsimp only [ugo, uwp, ust, uct, rfd, BflowExp, BflowExp_128, Nat.beq, lv_args, rlk, rs1, rs2, rdl, rky, rcd, rno, rsw, Value.category, List.filter, List.take, List.drop, List.reverse, List.reverseAux, List.cons_append, List.nil_append, Option.toList, Int.toNat, Int.reduceToNat, if_pos, if_neg, reduceIte, ↓reduceIte, Nat.reduceAdd, Nat.reduceEqDiff, Nat.reduceBEq, beq_self_eq_true, Bool.not_true, Bool.not_false, Bool.and_true, Bool.and_false, Bool.true_and, Bool.false_and, gI_sI, gI_sL, gI_sA, gI_sM, gL_sI, gL_sL, gL_sA, gL_sM, aI_sI, aI_sL, aI_sA, aI_sM, aL_sI, aL_sL, aL_sA, aL_sM]; try dsimp only
          refine ⟨trivial, fun w19 τ19 hq19 => ?_⟩
          obtain ⟨rfl, rfl⟩ := hq19 trivial
          dsimp only [Option.toList, List.cons_append, List.nil_append, Nat.beq, gI_sI, gI_sL, gI_sA, gI_sM, gL_sI, gL_sL, gL_sA, gL_sM, aI_sI, aI_sL, aI_sA, aI_sM, aL_sI, aL_sL, aL_sA, aL_sM]
          unfold Qv_flowExp
          try dsimp only
          have ho : aI σ 19 c.toNatClampNeg = 2 := (i32_kk (K := 2) rfl rfl).mpr (by omega)
          refine ⟨rfl, (gI σ 114), (gI σ 115), ⟨Or.inl, fun q => q.elim id (fun z => z.elim (fun y => absurd ⟨by assumption, by assumption⟩ y.2.1) (fun y => y.elim (fun x => absurd x.1 (by rw [ho]; decide)) (fun x => absurd x.1 (by rw [ho]; decide))))⟩, ?_⟩
          rw [un_id]
          unfold fxS
          rw [if_neg (show ¬ (aI σ 19 c.toNatClampNeg = 3 ∨ aI σ 19 c.toNatClampNeg = 4 ∨ aI σ 19 c.toNatClampNeg = 16) by rw [ho]; decide), if_neg (fun z => absurd (show aI σ 19 c.toNatClampNeg = 5 from z.1) (by rw [ho]; decide)), if_neg (show ¬ aI σ 19 c.toNatClampNeg = 15 by rw [ho]; decide), if_neg (show ¬ (aI σ 19 c.toNatClampNeg = 8 ∨ aI σ 19 c.toNatClampNeg = 12) by rw [ho]; decide), if_neg (show ¬ aI σ 19 c.toNatClampNeg = 9 by rw [ho]; decide), if_neg (show ¬ aI σ 19 c.toNatClampNeg = 10 by rw [ho]; decide), if_neg (show ¬ aI σ 19 c.toNatClampNeg = 11 by rw [ho]; decide), if_neg (show ¬ aI σ 19 c.toNatClampNeg = 13 by rw [ho]; decide), if_neg (show ¬ aI σ 19 c.toNatClampNeg = 14 by rw [ho]; decide), if_neg (show ¬ aI σ 19 c.toNatClampNeg = 17 by rw [ho]; decide)]
          all_goals rfl
        · refine hB _ _ _ _ _ (fun m20 hm20 => ?_)
          dsimp only [ugo, uwp, ust, uct, rfd, BflowExp, BflowExp_112, Nat.beq, lv_args, rlk, rs1, rs2, rdl, rky, rcd, rno, rsw, Value.category, List.filter, List.take, List.drop, List.reverse, List.reverseAux, List.cons_append, List.nil_append, Option.toList, Int.toNat, Int.reduceToNat, if_pos, if_neg, reduceIte, ↓reduceIte, Nat.reduceAdd, Nat.reduceEqDiff, Nat.reduceBEq, beq_self_eq_true, Bool.not_true, Bool.not_false, Bool.and_true, Bool.and_false, Bool.true_and, Bool.false_and, gI_sI, gI_sL, gI_sA, gI_sM, gL_sI, gL_sL, gL_sA, gL_sM, aI_sI, aI_sL, aI_sA, aI_sM, aL_sI, aL_sL, aL_sA, aL_sM]; try dsimp only
          intro p21
          intro p22
          refine ⟨trivial, fun w23 τ23 hq23 => ?_⟩
          obtain ⟨rfl, u23, p23_, hu23, rfl⟩ := hq23 trivial
          dsimp only [Option.toList, List.cons_append, List.nil_append, Nat.beq, gI_sI, gI_sL, gI_sA, gI_sM, gL_sI, gL_sL, gL_sA, gL_sM, aI_sI, aI_sL, aI_sA, aI_sM, aL_sI, aL_sL, aL_sA, aL_sM]
          refine hB _ _ _ _ _ (fun m24 hm24 => ?_)
          dsimp only [ugo, uwp, ust, uct, rfd, BflowExp, BflowExp_128, Nat.beq, lv_args, rlk, rs1, rs2, rdl, rky, rcd, rno, rsw, Value.category, List.filter, List.take, List.drop, List.reverse, List.reverseAux, List.cons_append, List.nil_append, Option.toList, Int.toNat, Int.reduceToNat, if_pos, if_neg, reduceIte, ↓reduceIte, Nat.reduceAdd, Nat.reduceEqDiff, Nat.reduceBEq, beq_self_eq_true, Bool.not_true, Bool.not_false, Bool.and_true, Bool.and_false, Bool.true_and, Bool.false_and, gI_sI, gI_sL, gI_sA, gI_sM, gL_sI, gL_sL, gL_sA, gL_sM, aI_sI, aI_sL, aI_sA, aI_sM, aL_sI, aL_sL, aL_sA, aL_sM]; try dsimp only
          refine ⟨trivial, fun w25 τ25 hq25 => ?_⟩
          obtain ⟨rfl, rfl⟩ := hq25 trivial
          dsimp only [Option.toList, List.cons_append, List.nil_append, Nat.beq, gI_sI, gI_sL, gI_sA, gI_sM, gL_sI, gL_sL, gL_sA, gL_sM, aI_sI, aI_sL, aI_sA, aI_sM, aL_sI, aL_sL, aL_sA, aL_sM]
          unfold Qv_flowExp
          try dsimp only
          have ho : aI σ 19 c.toNatClampNeg = 2 := (i32_kk (K := 2) rfl rfl).mpr (by omega)
          refine ⟨rfl, u23, p23_, ⟨fun q => (hu23.mp q).imp id (fun z => Or.inl ⟨ho, (by intro y; first | exact absurd (by assumption) y.1 | exact absurd (by assumption) y.2), z⟩), fun q => hu23.mpr (q.imp id (fun z => z.elim (fun y => y.2.2) (fun y => y.elim (fun x => absurd (x.1) (by rw [ho]; decide)) (fun x => absurd x.1 (by rw [ho]; decide)))))⟩, ?_⟩
          unfold fxS
          have ho2 : aI (unS σ u23 p23_) 19 c.toNatClampNeg = 2 := ho
          rw [if_neg (show ¬ (aI (unS σ u23 p23_) 19 c.toNatClampNeg = 3 ∨ aI (unS σ u23 p23_) 19 c.toNatClampNeg = 4 ∨ aI (unS σ u23 p23_) 19 c.toNatClampNeg = 16) by rw [ho2]; decide), if_neg (fun z => absurd (show aI (unS σ u23 p23_) 19 c.toNatClampNeg = 5 from z.1) (by rw [ho2]; decide)), if_neg (show ¬ aI (unS σ u23 p23_) 19 c.toNatClampNeg = 15 by rw [ho2]; decide), if_neg (show ¬ (aI (unS σ u23 p23_) 19 c.toNatClampNeg = 8 ∨ aI (unS σ u23 p23_) 19 c.toNatClampNeg = 12) by rw [ho2]; decide), if_neg (show ¬ aI (unS σ u23 p23_) 19 c.toNatClampNeg = 9 by rw [ho2]; decide), if_neg (show ¬ aI (unS σ u23 p23_) 19 c.toNatClampNeg = 10 by rw [ho2]; decide), if_neg (show ¬ aI (unS σ u23 p23_) 19 c.toNatClampNeg = 11 by rw [ho2]; decide), if_neg (show ¬ aI (unS σ u23 p23_) 19 c.toNatClampNeg = 13 by rw [ho2]; decide), if_neg (show ¬ aI (unS σ u23 p23_) 19 c.toNatClampNeg = 14 by rw [ho2]; decide), if_neg (show ¬ aI (unS σ u23 p23_) 19 c.toNatClampNeg = 17 by rw [ho2]; decide)]
          all_goals rfl
    have c3 : ¬ (aI σ 19 c.toNatClampNeg).toInt = 2 := fun q => h3 ((rfl : (aI σ 19 c.toNatClampNeg).toInt = (aI σ 19 c.toNatClampNeg).toInt).trans q)
    refine ⟨fun h26 => ?_, fun h26 => ?_⟩
    · have c26 : (aI σ 19 c.toNatClampNeg).toInt = 3 := (rfl : (aI σ 19 c.toNatClampNeg).toInt = (aI σ 19 c.toNatClampNeg).toInt).symm.trans h26
      refine hB _ _ _ _ _ (fun m27 hm27 => ?_)
      dsimp only [ugo, uwp, ust, uct, rfd, BflowExp, BflowExp_134, Nat.beq, lv_args, rlk, rs1, rs2, rdl, rky, rcd, rno, rsw, Value.category, List.filter, List.take, List.drop, List.reverse, List.reverseAux, List.cons_append, List.nil_append, Option.toList, Int.toNat, Int.reduceToNat, if_pos, if_neg, reduceIte, ↓reduceIte, Nat.reduceAdd, Nat.reduceEqDiff, Nat.reduceBEq, beq_self_eq_true, Bool.not_true, Bool.not_false, Bool.and_true, Bool.and_false, Bool.true_and, Bool.false_and, gI_sI, gI_sL, gI_sA, gI_sM, gL_sI, gL_sL, gL_sA, gL_sM, aI_sI, aI_sL, aI_sA, aI_sM, aL_sI, aL_sL, aL_sA, aL_sM]; try dsimp only
      intro p28
      intro p29
      refine ⟨trivial, fun w30 τ30 hq30 => ?_⟩
      obtain ⟨rfl, u30, p30_, hu30, rfl⟩ := hq30 trivial
      dsimp only [Option.toList, List.cons_append, List.nil_append, Nat.beq, gI_sI, gI_sL, gI_sA, gI_sM, gL_sI, gL_sL, gL_sA, gL_sM, aI_sI, aI_sL, aI_sA, aI_sM, aL_sI, aL_sL, aL_sA, aL_sM]
      refine ⟨trivial, fun w31 τ31 hq31 => ?_⟩
      obtain ⟨rfl, rfl⟩ := hq31 trivial
      dsimp only [Option.toList, List.cons_append, List.nil_append, Nat.beq, gI_sI, gI_sL, gI_sA, gI_sM, gL_sI, gL_sL, gL_sA, gL_sM, aI_sI, aI_sL, aI_sA, aI_sM, aL_sI, aL_sL, aL_sA, aL_sM]
      refine ⟨trivial, fun w32 τ32 hq32 => ?_⟩
      obtain ⟨rfl, rfl⟩ := hq32 trivial
      dsimp only [Option.toList, List.cons_append, List.nil_append, Nat.beq, gI_sI, gI_sL, gI_sA, gI_sM, gL_sI, gL_sL, gL_sA, gL_sM, aI_sI, aI_sL, aI_sA, aI_sM, aL_sI, aL_sL, aL_sA, aL_sM]
      unfold Qv_flowExp
      try dsimp only
      have ho : aI σ 19 c.toNatClampNeg = 3 := (i32_kk (K := 3) rfl rfl).mpr (by omega)
      refine ⟨rfl, u30, p30_, ⟨fun q => (hu30.mp q).imp id (fun z => Or.inr (Or.inl ⟨by rw [ho]; decide, z⟩)), fun q => hu30.mpr (q.imp id (fun z => z.elim (fun y => y.2.2) (fun y => y.elim (fun x => x.2) (fun x => absurd x.1 (by rw [ho]; decide)))))⟩, ?_⟩
      unfold fxS
      have ho2 : aI (unS σ u30 p30_) 19 c.toNatClampNeg = 3 := ho
      rw [if_pos (show aI (unS σ u30 p30_) 19 c.toNatClampNeg = 3 ∨ aI (unS σ u30 p30_) 19 c.toNatClampNeg = 4 ∨ aI (unS σ u30 p30_) 19 c.toNatClampNeg = 16 by rw [ho2]; decide)]
      all_goals rfl
    have c26 : ¬ (aI σ 19 c.toNatClampNeg).toInt = 3 := fun q => h26 ((rfl : (aI σ 19 c.toNatClampNeg).toInt = (aI σ 19 c.toNatClampNeg).toInt).trans q)
    refine ⟨fun h33 => ?_, fun h33 => ?_⟩
    · have c33 : (aI σ 19 c.toNatClampNeg).toInt = 4 := (rfl : (aI σ 19 c.toNatClampNeg).toInt = (aI σ 19 c.toNatClampNeg).toInt).symm.trans h33
      refine hB _ _ _ _ _ (fun m34 hm34 => ?_)
      dsimp only [ugo, uwp, ust, uct, rfd, BflowExp, BflowExp_134, Nat.beq, lv_args, rlk, rs1, rs2, rdl, rky, rcd, rno, rsw, Value.category, List.filter, List.take, List.drop, List.reverse, List.reverseAux, List.cons_append, List.nil_append, Option.toList, Int.toNat, Int.reduceToNat, if_pos, if_neg, reduceIte, ↓reduceIte, Nat.reduceAdd, Nat.reduceEqDiff, Nat.reduceBEq, beq_self_eq_true, Bool.not_true, Bool.not_false, Bool.and_true, Bool.and_false, Bool.true_and, Bool.false_and, gI_sI, gI_sL, gI_sA, gI_sM, gL_sI, gL_sL, gL_sA, gL_sM, aI_sI, aI_sL, aI_sA, aI_sM, aL_sI, aL_sL, aL_sA, aL_sM]; try dsimp only
      intro p35
      intro p36
      refine ⟨trivial, fun w37 τ37 hq37 => ?_⟩
      obtain ⟨rfl, u37, p37_, hu37, rfl⟩ := hq37 trivial
      dsimp only [Option.toList, List.cons_append, List.nil_append, Nat.beq, gI_sI, gI_sL, gI_sA, gI_sM, gL_sI, gL_sL, gL_sA, gL_sM, aI_sI, aI_sL, aI_sA, aI_sM, aL_sI, aL_sL, aL_sA, aL_sM]
      refine ⟨trivial, fun w38 τ38 hq38 => ?_⟩
      obtain ⟨rfl, rfl⟩ := hq38 trivial
      dsimp only [Option.toList, List.cons_append, List.nil_append, Nat.beq, gI_sI, gI_sL, gI_sA, gI_sM, gL_sI, gL_sL, gL_sA, gL_sM, aI_sI, aI_sL, aI_sA, aI_sM, aL_sI, aL_sL, aL_sA, aL_sM]
      refine ⟨trivial, fun w39 τ39 hq39 => ?_⟩
      obtain ⟨rfl, rfl⟩ := hq39 trivial
      dsimp only [Option.toList, List.cons_append, List.nil_append, Nat.beq, gI_sI, gI_sL, gI_sA, gI_sM, gL_sI, gL_sL, gL_sA, gL_sM, aI_sI, aI_sL, aI_sA, aI_sM, aL_sI, aL_sL, aL_sA, aL_sM]
      unfold Qv_flowExp
      try dsimp only
      have ho : aI σ 19 c.toNatClampNeg = 4 := (i32_kk (K := 4) rfl rfl).mpr (by omega)
      refine ⟨rfl, u37, p37_, ⟨fun q => (hu37.mp q).imp id (fun z => Or.inr (Or.inl ⟨by rw [ho]; decide, z⟩)), fun q => hu37.mpr (q.imp id (fun z => z.elim (fun y => y.2.2) (fun y => y.elim (fun x => x.2) (fun x => absurd x.1 (by rw [ho]; decide)))))⟩, ?_⟩
      unfold fxS
      have ho2 : aI (unS σ u37 p37_) 19 c.toNatClampNeg = 4 := ho
      rw [if_pos (show aI (unS σ u37 p37_) 19 c.toNatClampNeg = 3 ∨ aI (unS σ u37 p37_) 19 c.toNatClampNeg = 4 ∨ aI (unS σ u37 p37_) 19 c.toNatClampNeg = 16 by rw [ho2]; decide)]
      all_goals rfl
    have c33 : ¬ (aI σ 19 c.toNatClampNeg).toInt = 4 := fun q => h33 ((rfl : (aI σ 19 c.toNatClampNeg).toInt = (aI σ 19 c.toNatClampNeg).toInt).trans q)
    refine ⟨fun h40 => ?_, fun h40 => ?_⟩
    · have c40 : (aI σ 19 c.toNatClampNeg).toInt = 5 := (rfl : (aI σ 19 c.toNatClampNeg).toInt = (aI σ 19 c.toNatClampNeg).toInt).symm.trans h40
      refine hB _ _ _ _ _ (fun m41 hm41 => ?_)
      dsimp only [ugo, uwp, ust, uct, rfd, BflowExp, BflowExp_159, Nat.beq, lv_args, rlk, rs1, rs2, rdl, rky, rcd, rno, rsw, Value.category, List.filter, List.take, List.drop, List.reverse, List.reverseAux, List.cons_append, List.nil_append, Option.toList, Int.toNat, Int.reduceToNat, if_pos, if_neg, reduceIte, ↓reduceIte, Nat.reduceAdd, Nat.reduceEqDiff, Nat.reduceBEq, beq_self_eq_true, Bool.not_true, Bool.not_false, Bool.and_true, Bool.and_false, Bool.true_and, Bool.false_and, gI_sI, gI_sL, gI_sA, gI_sM, gL_sI, gL_sL, gL_sA, gL_sM, aI_sI, aI_sL, aI_sA, aI_sM, aL_sI, aL_sL, aL_sA, aL_sM, oi_33]; try dsimp only
      intro p42
      refine ⟨fun h43 => ?_, fun h43 => ?_⟩
      · refine hB _ _ _ _ _ (fun m44 hm44 => ?_)
        dsimp only [ugo, uwp, ust, uct, rfd, BflowExp, BflowExp_176, Nat.beq, lv_args, rlk, rs1, rs2, rdl, rky, rcd, rno, rsw, Value.category, List.filter, List.take, List.drop, List.reverse, List.reverseAux, List.cons_append, List.nil_append, Option.toList, Int.toNat, Int.reduceToNat, if_pos, if_neg, reduceIte, ↓reduceIte, Nat.reduceAdd, Nat.reduceEqDiff, Nat.reduceBEq, beq_self_eq_true, Bool.not_true, Bool.not_false, Bool.and_true, Bool.and_false, Bool.true_and, Bool.false_and, gI_sI, gI_sL, gI_sA, gI_sM, gL_sI, gL_sL, gL_sA, gL_sM, aI_sI, aI_sL, aI_sA, aI_sM, aL_sI, aL_sL, aL_sA, aL_sM]; try dsimp only
        unfold Qv_flowExp
        try dsimp only
        have ho : aI σ 19 c.toNatClampNeg = 5 := (i32_kk (K := 5) rfl rfl).mpr (by omega)
        refine ⟨rfl, (gI σ 114), (gI σ 115), ⟨Or.inl, fun q => q.elim id (fun z => z.elim (fun y => absurd y.1 (by rw [ho]; decide)) (fun y => y.elim (fun x => absurd x.1 (by rw [ho]; decide)) (fun x => absurd x.1 (by rw [ho]; decide))))⟩, ?_⟩
        rw [un_id]
        unfold fxS
        rw [if_neg (show ¬ (aI σ 19 c.toNatClampNeg = 3 ∨ aI σ 19 c.toNatClampNeg = 4 ∨ aI σ 19 c.toNatClampNeg = 16) by rw [ho]; decide), if_pos (show aI σ 19 c.toNatClampNeg = 5 ∧ aI σ 20 c.toNatClampNeg = 33 from ⟨ho, by assumption⟩)]
        all_goals rfl
      · refine hB _ _ _ _ _ (fun m45 hm45 => ?_)
        dsimp only [ugo, uwp, ust, uct, rfd, BflowExp, BflowExp_170, Nat.beq, lv_args, rlk, rs1, rs2, rdl, rky, rcd, rno, rsw, Value.category, List.filter, List.take, List.drop, List.reverse, List.reverseAux, List.cons_append, List.nil_append, Option.toList, Int.toNat, Int.reduceToNat, if_pos, if_neg, reduceIte, ↓reduceIte, Nat.reduceAdd, Nat.reduceEqDiff, Nat.reduceBEq, beq_self_eq_true, Bool.not_true, Bool.not_false, Bool.and_true, Bool.and_false, Bool.true_and, Bool.false_and, gI_sI, gI_sL, gI_sA, gI_sM, gL_sI, gL_sL, gL_sA, gL_sM, aI_sI, aI_sL, aI_sA, aI_sM, aL_sI, aL_sL, aL_sA, aL_sM]; try dsimp only
        refine ⟨trivial, fun w46 τ46 hq46 => ?_⟩
        obtain ⟨rfl, rfl⟩ := hq46 trivial
        dsimp only [Option.toList, List.cons_append, List.nil_append, Nat.beq, gI_sI, gI_sL, gI_sA, gI_sM, gL_sI, gL_sL, gL_sA, gL_sM, aI_sI, aI_sL, aI_sA, aI_sM, aL_sI, aL_sL, aL_sA, aL_sM]
        unfold Qv_flowExp
        try dsimp only
        have ho : aI σ 19 c.toNatClampNeg = 5 := (i32_kk (K := 5) rfl rfl).mpr (by omega)
        refine ⟨rfl, (gI σ 114), (gI σ 115), ⟨Or.inl, fun q => q.elim id (fun z => z.elim (fun y => absurd y.1 (by rw [ho]; decide)) (fun y => y.elim (fun x => absurd x.1 (by rw [ho]; decide)) (fun x => absurd x.1 (by rw [ho]; decide))))⟩, ?_⟩
        rw [un_id]
        unfold fxS
        rw [if_neg (show ¬ (aI σ 19 c.toNatClampNeg = 3 ∨ aI σ 19 c.toNatClampNeg = 4 ∨ aI σ 19 c.toNatClampNeg = 16) by rw [ho]; decide), if_neg (fun z => absurd (show aI σ 20 c.toNatClampNeg = 33 from z.2) (by assumption)), if_neg (show ¬ aI σ 19 c.toNatClampNeg = 15 by rw [ho]; decide), if_neg (show ¬ (aI σ 19 c.toNatClampNeg = 8 ∨ aI σ 19 c.toNatClampNeg = 12) by rw [ho]; decide), if_neg (show ¬ aI σ 19 c.toNatClampNeg = 9 by rw [ho]; decide), if_neg (show ¬ aI σ 19 c.toNatClampNeg = 10 by rw [ho]; decide), if_neg (show ¬ aI σ 19 c.toNatClampNeg = 11 by rw [ho]; decide), if_neg (show ¬ aI σ 19 c.toNatClampNeg = 13 by rw [ho]; decide), if_neg (show ¬ aI σ 19 c.toNatClampNeg = 14 by rw [ho]; decide), if_neg (show ¬ aI σ 19 c.toNatClampNeg = 17 by rw [ho]; decide)]
        all_goals rfl
    have c40 : ¬ (aI σ 19 c.toNatClampNeg).toInt = 5 := fun q => h40 ((rfl : (aI σ 19 c.toNatClampNeg).toInt = (aI σ 19 c.toNatClampNeg).toInt).trans q)
    refine ⟨fun h47 => ?_, fun h47 => ?_⟩
    · have c47 : (aI σ 19 c.toNatClampNeg).toInt = 6 := (rfl : (aI σ 19 c.toNatClampNeg).toInt = (aI σ 19 c.toNatClampNeg).toInt).symm.trans h47
      refine hB _ _ _ _ _ (fun m48 hm48 => ?_)
      dsimp only [ugo, uwp, ust, uct, rfd, BflowExp, BflowExp_510, Nat.beq, lv_args, rlk, rs1, rs2, rdl, rky, rcd, rno, rsw, Value.category, List.filter, List.take, List.drop, List.reverse, List.reverseAux, List.cons_append, List.nil_append, Option.toList, Int.toNat, Int.reduceToNat, if_pos, if_neg, reduceIte, ↓reduceIte, Nat.reduceAdd, Nat.reduceEqDiff, Nat.reduceBEq, beq_self_eq_true, Bool.not_true, Bool.not_false, Bool.and_true, Bool.and_false, Bool.true_and, Bool.false_and, gI_sI, gI_sL, gI_sA, gI_sM, gL_sI, gL_sL, gL_sA, gL_sM, aI_sI, aI_sL, aI_sA, aI_sM, aL_sI, aL_sL, aL_sA, aL_sM]; try dsimp only
      refine ⟨trivial, fun w49 τ49 hq49 => ?_⟩
      obtain ⟨rfl, rfl⟩ := hq49 trivial
      dsimp only [Option.toList, List.cons_append, List.nil_append, Nat.beq, gI_sI, gI_sL, gI_sA, gI_sM, gL_sI, gL_sL, gL_sA, gL_sM, aI_sI, aI_sL, aI_sA, aI_sM, aL_sI, aL_sL, aL_sA, aL_sM]
      unfold Qv_flowExp
      try dsimp only
      have ho : aI σ 19 c.toNatClampNeg = 6 := (i32_kk (K := 6) rfl rfl).mpr (by omega)
      refine ⟨rfl, (gI σ 114), (gI σ 115), ⟨Or.inl, fun q => q.elim id (fun z => z.elim (fun y => absurd y.1 (by rw [ho]; decide)) (fun y => y.elim (fun x => absurd x.1 (by rw [ho]; decide)) (fun x => absurd x.1 (by rw [ho]; decide))))⟩, ?_⟩
      rw [un_id]
      unfold fxS
      rw [if_neg (show ¬ (aI σ 19 c.toNatClampNeg = 3 ∨ aI σ 19 c.toNatClampNeg = 4 ∨ aI σ 19 c.toNatClampNeg = 16) by rw [ho]; decide), if_neg (fun z => absurd (show aI σ 19 c.toNatClampNeg = 5 from z.1) (by rw [ho]; decide)), if_neg (show ¬ aI σ 19 c.toNatClampNeg = 15 by rw [ho]; decide), if_neg (show ¬ (aI σ 19 c.toNatClampNeg = 8 ∨ aI σ 19 c.toNatClampNeg = 12) by rw [ho]; decide), if_neg (show ¬ aI σ 19 c.toNatClampNeg = 9 by rw [ho]; decide), if_neg (show ¬ aI σ 19 c.toNatClampNeg = 10 by rw [ho]; decide), if_neg (show ¬ aI σ 19 c.toNatClampNeg = 11 by rw [ho]; decide), if_neg (show ¬ aI σ 19 c.toNatClampNeg = 13 by rw [ho]; decide), if_neg (show ¬ aI σ 19 c.toNatClampNeg = 14 by rw [ho]; decide), if_neg (show ¬ aI σ 19 c.toNatClampNeg = 17 by rw [ho]; decide)]
      all_goals rfl
    have c47 : ¬ (aI σ 19 c.toNatClampNeg).toInt = 6 := fun q => h47 ((rfl : (aI σ 19 c.toNatClampNeg).toInt = (aI σ 19 c.toNatClampNeg).toInt).trans q)
    refine ⟨fun h50 => ?_, fun h50 => ?_⟩
    · have c50 : (aI σ 19 c.toNatClampNeg).toInt = 7 := (rfl : (aI σ 19 c.toNatClampNeg).toInt = (aI σ 19 c.toNatClampNeg).toInt).symm.trans h50
      refine hB _ _ _ _ _ (fun m51 hm51 => ?_)
      dsimp only [ugo, uwp, ust, uct, rfd, BflowExp, BflowExp_510, Nat.beq, lv_args, rlk, rs1, rs2, rdl, rky, rcd, rno, rsw, Value.category, List.filter, List.take, List.drop, List.reverse, List.reverseAux, List.cons_append, List.nil_append, Option.toList, Int.toNat, Int.reduceToNat, if_pos, if_neg, reduceIte, ↓reduceIte, Nat.reduceAdd, Nat.reduceEqDiff, Nat.reduceBEq, beq_self_eq_true, Bool.not_true, Bool.not_false, Bool.and_true, Bool.and_false, Bool.true_and, Bool.false_and, gI_sI, gI_sL, gI_sA, gI_sM, gL_sI, gL_sL, gL_sA, gL_sM, aI_sI, aI_sL, aI_sA, aI_sM, aL_sI, aL_sL, aL_sA, aL_sM]; try dsimp only
      refine ⟨trivial, fun w52 τ52 hq52 => ?_⟩
      obtain ⟨rfl, rfl⟩ := hq52 trivial
      dsimp only [Option.toList, List.cons_append, List.nil_append, Nat.beq, gI_sI, gI_sL, gI_sA, gI_sM, gL_sI, gL_sL, gL_sA, gL_sM, aI_sI, aI_sL, aI_sA, aI_sM, aL_sI, aL_sL, aL_sA, aL_sM]
      unfold Qv_flowExp
      try dsimp only
      have ho : aI σ 19 c.toNatClampNeg = 7 := (i32_kk (K := 7) rfl rfl).mpr (by omega)
      refine ⟨rfl, (gI σ 114), (gI σ 115), ⟨Or.inl, fun q => q.elim id (fun z => z.elim (fun y => absurd y.1 (by rw [ho]; decide)) (fun y => y.elim (fun x => absurd x.1 (by rw [ho]; decide)) (fun x => absurd x.1 (by rw [ho]; decide))))⟩, ?_⟩
      rw [un_id]
      unfold fxS
      rw [if_neg (show ¬ (aI σ 19 c.toNatClampNeg = 3 ∨ aI σ 19 c.toNatClampNeg = 4 ∨ aI σ 19 c.toNatClampNeg = 16) by rw [ho]; decide), if_neg (fun z => absurd (show aI σ 19 c.toNatClampNeg = 5 from z.1) (by rw [ho]; decide)), if_neg (show ¬ aI σ 19 c.toNatClampNeg = 15 by rw [ho]; decide), if_neg (show ¬ (aI σ 19 c.toNatClampNeg = 8 ∨ aI σ 19 c.toNatClampNeg = 12) by rw [ho]; decide), if_neg (show ¬ aI σ 19 c.toNatClampNeg = 9 by rw [ho]; decide), if_neg (show ¬ aI σ 19 c.toNatClampNeg = 10 by rw [ho]; decide), if_neg (show ¬ aI σ 19 c.toNatClampNeg = 11 by rw [ho]; decide), if_neg (show ¬ aI σ 19 c.toNatClampNeg = 13 by rw [ho]; decide), if_neg (show ¬ aI σ 19 c.toNatClampNeg = 14 by rw [ho]; decide), if_neg (show ¬ aI σ 19 c.toNatClampNeg = 17 by rw [ho]; decide)]
      all_goals rfl
    have c50 : ¬ (aI σ 19 c.toNatClampNeg).toInt = 7 := fun q => h50 ((rfl : (aI σ 19 c.toNatClampNeg).toInt = (aI σ 19 c.toNatClampNeg).toInt).trans q)
    refine ⟨fun h53 => ?_, fun h53 => ?_⟩
    · have c53 : (aI σ 19 c.toNatClampNeg).toInt = 8 := (rfl : (aI σ 19 c.toNatClampNeg).toInt = (aI σ 19 c.toNatClampNeg).toInt).symm.trans h53
      refine hB _ _ _ _ _ (fun m54 hm54 => ?_)
      dsimp only [ugo, uwp, ust, uct, rfd, BflowExp, BflowExp_196, Nat.beq, lv_args, rlk, rs1, rs2, rdl, rky, rcd, rno, rsw, Value.category, List.filter, List.take, List.drop, List.reverse, List.reverseAux, List.cons_append, List.nil_append, Option.toList, Int.toNat, Int.reduceToNat, if_pos, if_neg, reduceIte, ↓reduceIte, Nat.reduceAdd, Nat.reduceEqDiff, Nat.reduceBEq, beq_self_eq_true, Bool.not_true, Bool.not_false, Bool.and_true, Bool.and_false, Bool.true_and, Bool.false_and, gI_sI, gI_sL, gI_sA, gI_sM, gL_sI, gL_sL, gL_sA, gL_sM, aI_sI, aI_sL, aI_sA, aI_sM, aL_sI, aL_sL, aL_sA, aL_sM, oi_1]; try dsimp only
      intro p55
      refine ⟨trivial, fun w56 τ56 hq56 => ?_⟩
      obtain ⟨rfl, rfl⟩ := hq56 trivial
      dsimp only [Option.toList, List.cons_append, List.nil_append, Nat.beq, gI_sI, gI_sL, gI_sA, gI_sM, gL_sI, gL_sL, gL_sA, gL_sM, aI_sI, aI_sL, aI_sA, aI_sM, aL_sI, aL_sL, aL_sA, aL_sM]
      unfold Qv_flowExp
      try dsimp only
      have ho : aI σ 19 c.toNatClampNeg = 8 := (i32_kk (K := 8) rfl rfl).mpr (by omega)
      refine ⟨rfl, (gI σ 114), (gI σ 115), ⟨Or.inl, fun q => q.elim id (fun z => z.elim (fun y => absurd y.1 (by rw [ho]; decide)) (fun y => y.elim (fun x => absurd x.1 (by rw [ho]; decide)) (fun x => absurd x.1 (by rw [ho]; decide))))⟩, ?_⟩
      rw [un_id]
      unfold fxS
      rw [if_neg (show ¬ (aI σ 19 c.toNatClampNeg = 3 ∨ aI σ 19 c.toNatClampNeg = 4 ∨ aI σ 19 c.toNatClampNeg = 16) by rw [ho]; decide), if_neg (fun z => absurd (show aI σ 19 c.toNatClampNeg = 5 from z.1) (by rw [ho]; decide)), if_neg (show ¬ aI σ 19 c.toNatClampNeg = 15 by rw [ho]; decide), if_pos (show aI σ 19 c.toNatClampNeg = 8 ∨ aI σ 19 c.toNatClampNeg = 12 by rw [ho]; decide)]
      all_goals rfl
    have c53 : ¬ (aI σ 19 c.toNatClampNeg).toInt = 8 := fun q => h53 ((rfl : (aI σ 19 c.toNatClampNeg).toInt = (aI σ 19 c.toNatClampNeg).toInt).trans q)
    refine ⟨fun h57 => ?_, fun h57 => ?_⟩
    · have c57 : (aI σ 19 c.toNatClampNeg).toInt = 9 := (rfl : (aI σ 19 c.toNatClampNeg).toInt = (aI σ 19 c.toNatClampNeg).toInt).symm.trans h57
      refine hB _ _ _ _ _ (fun m58 hm58 => ?_)
      dsimp only [ugo, uwp, ust, uct, rfd, BflowExp, BflowExp_228, Nat.beq, lv_args, rlk, rs1, rs2, rdl, rky, rcd, rno, rsw, Value.category, List.filter, List.take, List.drop, List.reverse, List.reverseAux, List.cons_append, List.nil_append, Option.toList, Int.toNat, Int.reduceToNat, if_pos, if_neg, reduceIte, ↓reduceIte, Nat.reduceAdd, Nat.reduceEqDiff, Nat.reduceBEq, beq_self_eq_true, Bool.not_true, Bool.not_false, Bool.and_true, Bool.and_false, Bool.true_and, Bool.false_and, gI_sI, gI_sL, gI_sA, gI_sM, gL_sI, gL_sL, gL_sA, gL_sM, aI_sI, aI_sL, aI_sA, aI_sM, aL_sI, aL_sL, aL_sA, aL_sM, oi_1]; try dsimp only
      intro p59
      unfold Qv_flowExp
      try dsimp only
      have ho : aI σ 19 c.toNatClampNeg = 9 := (i32_kk (K := 9) rfl rfl).mpr (by omega)
      refine ⟨rfl, (gI σ 114), (gI σ 115), ⟨Or.inl, fun q => q.elim id (fun z => z.elim (fun y => absurd y.1 (by rw [ho]; decide)) (fun y => y.elim (fun x => absurd x.1 (by rw [ho]; decide)) (fun x => absurd x.1 (by rw [ho]; decide))))⟩, ?_⟩
      rw [un_id]
      unfold fxS
      rw [if_neg (show ¬ (aI σ 19 c.toNatClampNeg = 3 ∨ aI σ 19 c.toNatClampNeg = 4 ∨ aI σ 19 c.toNatClampNeg = 16) by rw [ho]; decide), if_neg (fun z => absurd (show aI σ 19 c.toNatClampNeg = 5 from z.1) (by rw [ho]; decide)), if_neg (show ¬ aI σ 19 c.toNatClampNeg = 15 by rw [ho]; decide), if_neg (show ¬ (aI σ 19 c.toNatClampNeg = 8 ∨ aI σ 19 c.toNatClampNeg = 12) by rw [ho]; decide), if_pos (show aI σ 19 c.toNatClampNeg = 9 from ho)]
      all_goals rfl
    have c57 : ¬ (aI σ 19 c.toNatClampNeg).toInt = 9 := fun q => h57 ((rfl : (aI σ 19 c.toNatClampNeg).toInt = (aI σ 19 c.toNatClampNeg).toInt).trans q)
    refine ⟨fun h60 => ?_, fun h60 => ?_⟩
    · have c60 : (aI σ 19 c.toNatClampNeg).toInt = 10 := (rfl : (aI σ 19 c.toNatClampNeg).toInt = (aI σ 19 c.toNatClampNeg).toInt).symm.trans h60
      refine hB _ _ _ _ _ (fun m61 hm61 => ?_)
      dsimp only [ugo, uwp, ust, uct, rfd, BflowExp, BflowExp_257, Nat.beq, lv_args, rlk, rs1, rs2, rdl, rky, rcd, rno, rsw, Value.category, List.filter, List.take, List.drop, List.reverse, List.reverseAux, List.cons_append, List.nil_append, Option.toList, Int.toNat, Int.reduceToNat, if_pos, if_neg, reduceIte, ↓reduceIte, Nat.reduceAdd, Nat.reduceEqDiff, Nat.reduceBEq, beq_self_eq_true, Bool.not_true, Bool.not_false, Bool.and_true, Bool.and_false, Bool.true_and, Bool.false_and, gI_sI, gI_sL, gI_sA, gI_sM, gL_sI, gL_sL, gL_sA, gL_sM, aI_sI, aI_sL, aI_sA, aI_sM, aL_sI, aL_sL, aL_sA, aL_sM, oi_1]; try dsimp only
      intro p62
      refine ⟨trivial, fun w63 τ63 hq63 => ?_⟩
      obtain ⟨rfl, rfl⟩ := hq63 trivial
      dsimp only [Option.toList, List.cons_append, List.nil_append, Nat.beq, gI_sI, gI_sL, gI_sA, gI_sM, gL_sI, gL_sL, gL_sA, gL_sM, aI_sI, aI_sL, aI_sA, aI_sM, aL_sI, aL_sL, aL_sA, aL_sM]
      unfold Qv_flowExp
      try dsimp only
      have ho : aI σ 19 c.toNatClampNeg = 10 := (i32_kk (K := 10) rfl rfl).mpr (by omega)
      refine ⟨rfl, (gI σ 114), (gI σ 115), ⟨Or.inl, fun q => q.elim id (fun z => z.elim (fun y => absurd y.1 (by rw [ho]; decide)) (fun y => y.elim (fun x => absurd x.1 (by rw [ho]; decide)) (fun x => absurd x.1 (by rw [ho]; decide))))⟩, ?_⟩
      rw [un_id]
      unfold fxS
      rw [if_neg (show ¬ (aI σ 19 c.toNatClampNeg = 3 ∨ aI σ 19 c.toNatClampNeg = 4 ∨ aI σ 19 c.toNatClampNeg = 16) by rw [ho]; decide), if_neg (fun z => absurd (show aI σ 19 c.toNatClampNeg = 5 from z.1) (by rw [ho]; decide)), if_neg (show ¬ aI σ 19 c.toNatClampNeg = 15 by rw [ho]; decide), if_neg (show ¬ (aI σ 19 c.toNatClampNeg = 8 ∨ aI σ 19 c.toNatClampNeg = 12) by rw [ho]; decide), if_neg (show ¬ aI σ 19 c.toNatClampNeg = 9 by rw [ho]; decide), if_pos (show aI σ 19 c.toNatClampNeg = 10 from ho)]
      all_goals rfl
    have c60 : ¬ (aI σ 19 c.toNatClampNeg).toInt = 10 := fun q => h60 ((rfl : (aI σ 19 c.toNatClampNeg).toInt = (aI σ 19 c.toNatClampNeg).toInt).trans q)
    refine ⟨fun h64 => ?_, fun h64 => ?_⟩
    · have c64 : (aI σ 19 c.toNatClampNeg).toInt = 11 := (rfl : (aI σ 19 c.toNatClampNeg).toInt = (aI σ 19 c.toNatClampNeg).toInt).symm.trans h64
      refine hB _ _ _ _ _ (fun m65 hm65 => ?_)
      dsimp only [ugo, uwp, ust, uct, rfd, BflowExp, BflowExp_289, Nat.beq, lv_args, rlk, rs1, rs2, rdl, rky, rcd, rno, rsw, Value.category, List.filter, List.take, List.drop, List.reverse, List.reverseAux, List.cons_append, List.nil_append, Option.toList, Int.toNat, Int.reduceToNat, if_pos, if_neg, reduceIte, ↓reduceIte, Nat.reduceAdd, Nat.reduceEqDiff, Nat.reduceBEq, beq_self_eq_true, Bool.not_true, Bool.not_false, Bool.and_true, Bool.and_false, Bool.true_and, Bool.false_and, gI_sI, gI_sL, gI_sA, gI_sM, gL_sI, gL_sL, gL_sA, gL_sM, aI_sI, aI_sL, aI_sA, aI_sM, aL_sI, aL_sL, aL_sA, aL_sM, oi_1]; try dsimp only
      intro p66
      unfold Qv_flowExp
      try dsimp only
      have ho : aI σ 19 c.toNatClampNeg = 11 := (i32_kk (K := 11) rfl rfl).mpr (by omega)
      refine ⟨rfl, (gI σ 114), (gI σ 115), ⟨Or.inl, fun q => q.elim id (fun z => z.elim (fun y => absurd y.1 (by rw [ho]; decide)) (fun y => y.elim (fun x => absurd x.1 (by rw [ho]; decide)) (fun x => absurd x.1 (by rw [ho]; decide))))⟩, ?_⟩
      rw [un_id]
      unfold fxS
      rw [if_neg (show ¬ (aI σ 19 c.toNatClampNeg = 3 ∨ aI σ 19 c.toNatClampNeg = 4 ∨ aI σ 19 c.toNatClampNeg = 16) by rw [ho]; decide), if_neg (fun z => absurd (show aI σ 19 c.toNatClampNeg = 5 from z.1) (by rw [ho]; decide)), if_neg (show ¬ aI σ 19 c.toNatClampNeg = 15 by rw [ho]; decide), if_neg (show ¬ (aI σ 19 c.toNatClampNeg = 8 ∨ aI σ 19 c.toNatClampNeg = 12) by rw [ho]; decide), if_neg (show ¬ aI σ 19 c.toNatClampNeg = 9 by rw [ho]; decide), if_neg (show ¬ aI σ 19 c.toNatClampNeg = 10 by rw [ho]; decide), if_pos (show aI σ 19 c.toNatClampNeg = 11 from ho)]
      all_goals rfl
    have c64 : ¬ (aI σ 19 c.toNatClampNeg).toInt = 11 := fun q => h64 ((rfl : (aI σ 19 c.toNatClampNeg).toInt = (aI σ 19 c.toNatClampNeg).toInt).trans q)
    refine ⟨fun h67 => ?_, fun h67 => ?_⟩
    · have c67 : (aI σ 19 c.toNatClampNeg).toInt = 12 := (rfl : (aI σ 19 c.toNatClampNeg).toInt = (aI σ 19 c.toNatClampNeg).toInt).symm.trans h67
      refine hB _ _ _ _ _ (fun m68 hm68 => ?_)
      dsimp only [ugo, uwp, ust, uct, rfd, BflowExp, BflowExp_318, Nat.beq, lv_args, rlk, rs1, rs2, rdl, rky, rcd, rno, rsw, Value.category, List.filter, List.take, List.drop, List.reverse, List.reverseAux, List.cons_append, List.nil_append, Option.toList, Int.toNat, Int.reduceToNat, if_pos, if_neg, reduceIte, ↓reduceIte, Nat.reduceAdd, Nat.reduceEqDiff, Nat.reduceBEq, beq_self_eq_true, Bool.not_true, Bool.not_false, Bool.and_true, Bool.and_false, Bool.true_and, Bool.false_and, gI_sI, gI_sL, gI_sA, gI_sM, gL_sI, gL_sL, gL_sA, gL_sM, aI_sI, aI_sL, aI_sA, aI_sM, aL_sI, aL_sL, aL_sA, aL_sM, oi_1]; try dsimp only
      intro p69
      refine ⟨trivial, fun w70 τ70 hq70 => ?_⟩
      obtain ⟨rfl, rfl⟩ := hq70 trivial
      dsimp only [Option.toList, List.cons_append, List.nil_append, Nat.beq, gI_sI, gI_sL, gI_sA, gI_sM, gL_sI, gL_sL, gL_sA, gL_sM, aI_sI, aI_sL, aI_sA, aI_sM, aL_sI, aL_sL, aL_sA, aL_sM]
      unfold Qv_flowExp
      try dsimp only
      have ho : aI σ 19 c.toNatClampNeg = 12 := (i32_kk (K := 12) rfl rfl).mpr (by omega)
      refine ⟨rfl, (gI σ 114), (gI σ 115), ⟨Or.inl, fun q => q.elim id (fun z => z.elim (fun y => absurd y.1 (by rw [ho]; decide)) (fun y => y.elim (fun x => absurd x.1 (by rw [ho]; decide)) (fun x => absurd x.1 (by rw [ho]; decide))))⟩, ?_⟩
      rw [un_id]
      unfold fxS
      rw [if_neg (show ¬ (aI σ 19 c.toNatClampNeg = 3 ∨ aI σ 19 c.toNatClampNeg = 4 ∨ aI σ 19 c.toNatClampNeg = 16) by rw [ho]; decide), if_neg (fun z => absurd (show aI σ 19 c.toNatClampNeg = 5 from z.1) (by rw [ho]; decide)), if_neg (show ¬ aI σ 19 c.toNatClampNeg = 15 by rw [ho]; decide), if_pos (show aI σ 19 c.toNatClampNeg = 8 ∨ aI σ 19 c.toNatClampNeg = 12 by rw [ho]; decide)]
      all_goals rfl
    have c67 : ¬ (aI σ 19 c.toNatClampNeg).toInt = 12 := fun q => h67 ((rfl : (aI σ 19 c.toNatClampNeg).toInt = (aI σ 19 c.toNatClampNeg).toInt).trans q)
    refine ⟨fun h71 => ?_, fun h71 => ?_⟩
    · have c71 : (aI σ 19 c.toNatClampNeg).toInt = 13 := (rfl : (aI σ 19 c.toNatClampNeg).toInt = (aI σ 19 c.toNatClampNeg).toInt).symm.trans h71
      refine hB _ _ _ _ _ (fun m72 hm72 => ?_)
      dsimp only [ugo, uwp, ust, uct, rfd, BflowExp, BflowExp_350, Nat.beq, lv_args, rlk, rs1, rs2, rdl, rky, rcd, rno, rsw, Value.category, List.filter, List.take, List.drop, List.reverse, List.reverseAux, List.cons_append, List.nil_append, Option.toList, Int.toNat, Int.reduceToNat, if_pos, if_neg, reduceIte, ↓reduceIte, Nat.reduceAdd, Nat.reduceEqDiff, Nat.reduceBEq, beq_self_eq_true, Bool.not_true, Bool.not_false, Bool.and_true, Bool.and_false, Bool.true_and, Bool.false_and, gI_sI, gI_sL, gI_sA, gI_sM, gL_sI, gL_sL, gL_sA, gL_sM, aI_sI, aI_sL, aI_sA, aI_sM, aL_sI, aL_sL, aL_sA, aL_sM, oi_1]; try dsimp only
      intro p73
      intro p74
      intro p75
      refine ⟨trivial, fun w76 τ76 hq76 => ?_⟩
      obtain ⟨rfl, rfl⟩ := hq76 trivial
      dsimp only [Option.toList, List.cons_append, List.nil_append, Nat.beq, gI_sI, gI_sL, gI_sA, gI_sM, gL_sI, gL_sL, gL_sA, gL_sM, aI_sI, aI_sL, aI_sA, aI_sM, aL_sI, aL_sL, aL_sA, aL_sM]
      unfold Qv_flowExp
      try dsimp only
      have ho : aI σ 19 c.toNatClampNeg = 13 := (i32_kk (K := 13) rfl rfl).mpr (by omega)
      refine ⟨rfl, (gI σ 114), (gI σ 115), ⟨Or.inl, fun q => q.elim id (fun z => z.elim (fun y => absurd y.1 (by rw [ho]; decide)) (fun y => y.elim (fun x => absurd x.1 (by rw [ho]; decide)) (fun x => absurd x.1 (by rw [ho]; decide))))⟩, ?_⟩
      rw [un_id]
      unfold fxS
      rw [if_neg (show ¬ (aI σ 19 c.toNatClampNeg = 3 ∨ aI σ 19 c.toNatClampNeg = 4 ∨ aI σ 19 c.toNatClampNeg = 16) by rw [ho]; decide), if_neg (fun z => absurd (show aI σ 19 c.toNatClampNeg = 5 from z.1) (by rw [ho]; decide)), if_neg (show ¬ aI σ 19 c.toNatClampNeg = 15 by rw [ho]; decide), if_neg (show ¬ (aI σ 19 c.toNatClampNeg = 8 ∨ aI σ 19 c.toNatClampNeg = 12) by rw [ho]; decide), if_neg (show ¬ aI σ 19 c.toNatClampNeg = 9 by rw [ho]; decide), if_neg (show ¬ aI σ 19 c.toNatClampNeg = 10 by rw [ho]; decide), if_neg (show ¬ aI σ 19 c.toNatClampNeg = 11 by rw [ho]; decide), if_pos (show aI σ 19 c.toNatClampNeg = 13 from ho)]
      all_goals rfl
    have c71 : ¬ (aI σ 19 c.toNatClampNeg).toInt = 13 := fun q => h71 ((rfl : (aI σ 19 c.toNatClampNeg).toInt = (aI σ 19 c.toNatClampNeg).toInt).trans q)
    refine ⟨fun h77 => ?_, fun h77 => ?_⟩
    · have c77 : (aI σ 19 c.toNatClampNeg).toInt = 14 := (rfl : (aI σ 19 c.toNatClampNeg).toInt = (aI σ 19 c.toNatClampNeg).toInt).symm.trans h77
      refine hB _ _ _ _ _ (fun m78 hm78 => ?_)
      dsimp only [ugo, uwp, ust, uct, rfd, BflowExp, BflowExp_400, Nat.beq, lv_args, rlk, rs1, rs2, rdl, rky, rcd, rno, rsw, Value.category, List.filter, List.take, List.drop, List.reverse, List.reverseAux, List.cons_append, List.nil_append, Option.toList, Int.toNat, Int.reduceToNat, if_pos, if_neg, reduceIte, ↓reduceIte, Nat.reduceAdd, Nat.reduceEqDiff, Nat.reduceBEq, beq_self_eq_true, Bool.not_true, Bool.not_false, Bool.and_true, Bool.and_false, Bool.true_and, Bool.false_and, gI_sI, gI_sL, gI_sA, gI_sM, gL_sI, gL_sL, gL_sA, gL_sM, aI_sI, aI_sL, aI_sA, aI_sM, aL_sI, aL_sL, aL_sA, aL_sM, oi_1]; try dsimp only
      intro p79
      intro p80
      intro p81
      refine ⟨fun h82 => ?_, fun h82 => ?_⟩
      · refine hB _ _ _ _ _ (fun m83 hm83 => ?_)
        dsimp only [ugo, uwp, ust, uct, rfd, BflowExp, BflowExp_463, Nat.beq, lv_args, rlk, rs1, rs2, rdl, rky, rcd, rno, rsw, Value.category, List.filter, List.take, List.drop, List.reverse, List.reverseAux, List.cons_append, List.nil_append, Option.toList, Int.toNat, Int.reduceToNat, if_pos, if_neg, reduceIte, ↓reduceIte, Nat.reduceAdd, Nat.reduceEqDiff, Nat.reduceBEq, beq_self_eq_true, Bool.not_true, Bool.not_false, Bool.and_true, Bool.and_false, Bool.true_and, Bool.false_and, gI_sI, gI_sL, gI_sA, gI_sM, gL_sI, gL_sL, gL_sA, gL_sM, aI_sI, aI_sL, aI_sA, aI_sM, aL_sI, aL_sL, aL_sA, aL_sM]; try dsimp only
        unfold Qv_flowExp
        try dsimp only
        have ho : aI σ 19 c.toNatClampNeg = 14 := (i32_kk (K := 14) rfl rfl).mpr (by omega)
        refine ⟨rfl, (gI σ 114), (gI σ 115), ⟨Or.inl, fun q => q.elim id (fun z => z.elim (fun y => absurd y.1 (by rw [ho]; decide)) (fun y => y.elim (fun x => absurd x.1 (by rw [ho]; decide)) (fun x => absurd x.1 (by rw [ho]; decide))))⟩, ?_⟩
        rw [un_id]
        unfold fxS
        rw [if_neg (show ¬ (aI σ 19 c.toNatClampNeg = 3 ∨ aI σ 19 c.toNatClampNeg = 4 ∨ aI σ 19 c.toNatClampNeg = 16) by rw [ho]; decide), if_neg (fun z => absurd (show aI σ 19 c.toNatClampNeg = 5 from z.1) (by rw [ho]; decide)), if_neg (show ¬ aI σ 19 c.toNatClampNeg = 15 by rw [ho]; decide), if_neg (show ¬ (aI σ 19 c.toNatClampNeg = 8 ∨ aI σ 19 c.toNatClampNeg = 12) by rw [ho]; decide), if_neg (show ¬ aI σ 19 c.toNatClampNeg = 9 by rw [ho]; decide), if_neg (show ¬ aI σ 19 c.toNatClampNeg = 10 by rw [ho]; decide), if_neg (show ¬ aI σ 19 c.toNatClampNeg = 11 by rw [ho]; decide), if_neg (show ¬ aI σ 19 c.toNatClampNeg = 13 by rw [ho]; decide), if_pos (show aI σ 19 c.toNatClampNeg = 14 from ho)]
        dsimp only
        rw [if_pos (by assumption)]
      · refine hB _ _ _ _ _ (fun m84 hm84 => ?_)
        dsimp only [ugo, uwp, ust, uct, rfd, BflowExp, BflowExp_455, Nat.beq, lv_args, rlk, rs1, rs2, rdl, rky, rcd, rno, rsw, Value.category, List.filter, List.take, List.drop, List.reverse, List.reverseAux, List.cons_append, List.nil_append, Option.toList, Int.toNat, Int.reduceToNat, if_pos, if_neg, reduceIte, ↓reduceIte, Nat.reduceAdd, Nat.reduceEqDiff, Nat.reduceBEq, beq_self_eq_true, Bool.not_true, Bool.not_false, Bool.and_true, Bool.and_false, Bool.true_and, Bool.false_and, gI_sI, gI_sL, gI_sA, gI_sM, gL_sI, gL_sL, gL_sA, gL_sM, aI_sI, aI_sL, aI_sA, aI_sM, aL_sI, aL_sL, aL_sA, aL_sM]; try dsimp only
        refine ⟨trivial, fun w85 τ85 hq85 => ?_⟩
        obtain ⟨rfl, rfl⟩ := hq85 trivial
        dsimp only [Option.toList, List.cons_append, List.nil_append, Nat.beq, gI_sI, gI_sL, gI_sA, gI_sM, gL_sI, gL_sL, gL_sA, gL_sM, aI_sI, aI_sL, aI_sA, aI_sM, aL_sI, aL_sL, aL_sA, aL_sM]
        refine ⟨trivial, fun w86 τ86 hq86 => ?_⟩
        obtain ⟨rfl, rfl⟩ := hq86 trivial
        dsimp only [Option.toList, List.cons_append, List.nil_append, Nat.beq, gI_sI, gI_sL, gI_sA, gI_sM, gL_sI, gL_sL, gL_sA, gL_sM, aI_sI, aI_sL, aI_sA, aI_sM, aL_sI, aL_sL, aL_sA, aL_sM]
        refine hB _ _ _ _ _ (fun m87 hm87 => ?_)
        dsimp only [ugo, uwp, ust, uct, rfd, BflowExp, BflowExp_463, Nat.beq, lv_args, rlk, rs1, rs2, rdl, rky, rcd, rno, rsw, Value.category, List.filter, List.take, List.drop, List.reverse, List.reverseAux, List.cons_append, List.nil_append, Option.toList, Int.toNat, Int.reduceToNat, if_pos, if_neg, reduceIte, ↓reduceIte, Nat.reduceAdd, Nat.reduceEqDiff, Nat.reduceBEq, beq_self_eq_true, Bool.not_true, Bool.not_false, Bool.and_true, Bool.and_false, Bool.true_and, Bool.false_and, gI_sI, gI_sL, gI_sA, gI_sM, gL_sI, gL_sL, gL_sA, gL_sM, aI_sI, aI_sL, aI_sA, aI_sM, aL_sI, aL_sL, aL_sA, aL_sM]; try dsimp only
        unfold Qv_flowExp
        try dsimp only
        have ho : aI σ 19 c.toNatClampNeg = 14 := (i32_kk (K := 14) rfl rfl).mpr (by omega)
        refine ⟨rfl, (gI σ 114), (gI σ 115), ⟨Or.inl, fun q => q.elim id (fun z => z.elim (fun y => absurd y.1 (by rw [ho]; decide)) (fun y => y.elim (fun x => absurd x.1 (by rw [ho]; decide)) (fun x => absurd x.1 (by rw [ho]; decide))))⟩, ?_⟩
        rw [un_id]
        unfold fxS
        rw [if_neg (show ¬ (aI σ 19 c.toNatClampNeg = 3 ∨ aI σ 19 c.toNatClampNeg = 4 ∨ aI σ 19 c.toNatClampNeg = 16) by rw [ho]; decide), if_neg (fun z => absurd (show aI σ 19 c.toNatClampNeg = 5 from z.1) (by rw [ho]; decide)), if_neg (show ¬ aI σ 19 c.toNatClampNeg = 15 by rw [ho]; decide), if_neg (show ¬ (aI σ 19 c.toNatClampNeg = 8 ∨ aI σ 19 c.toNatClampNeg = 12) by rw [ho]; decide), if_neg (show ¬ aI σ 19 c.toNatClampNeg = 9 by rw [ho]; decide), if_neg (show ¬ aI σ 19 c.toNatClampNeg = 10 by rw [ho]; decide), if_neg (show ¬ aI σ 19 c.toNatClampNeg = 11 by rw [ho]; decide), if_neg (show ¬ aI σ 19 c.toNatClampNeg = 13 by rw [ho]; decide), if_pos (show aI σ 19 c.toNatClampNeg = 14 from ho)]
        dsimp only
        rw [if_neg (by assumption)]
        all_goals rfl
    have c77 : ¬ (aI σ 19 c.toNatClampNeg).toInt = 14 := fun q => h77 ((rfl : (aI σ 19 c.toNatClampNeg).toInt = (aI σ 19 c.toNatClampNeg).toInt).trans q)
    refine ⟨fun h88 => ?_, fun h88 => ?_⟩
    · have c88 : (aI σ 19 c.toNatClampNeg).toInt = 15 := (rfl : (aI σ 19 c.toNatClampNeg).toInt = (aI σ 19 c.toNatClampNeg).toInt).symm.trans h88
      refine hB _ _ _ _ _ (fun m89 hm89 => ?_)
      dsimp only [ugo, uwp, ust, uct, rfd, BflowExp, BflowExp_195, Nat.beq, lv_args, rlk, rs1, rs2, rdl, rky, rcd, rno, rsw, Value.category, List.filter, List.take, List.drop, List.reverse, List.reverseAux, List.cons_append, List.nil_append, Option.toList, Int.toNat, Int.reduceToNat, if_pos, if_neg, reduceIte, ↓reduceIte, Nat.reduceAdd, Nat.reduceEqDiff, Nat.reduceBEq, beq_self_eq_true, Bool.not_true, Bool.not_false, Bool.and_true, Bool.and_false, Bool.true_and, Bool.false_and, gI_sI, gI_sL, gI_sA, gI_sM, gL_sI, gL_sL, gL_sA, gL_sM, aI_sI, aI_sL, aI_sA, aI_sM, aL_sI, aL_sL, aL_sA, aL_sM]; try dsimp only
      unfold Qv_flowExp
      try dsimp only
      have ho : aI σ 19 c.toNatClampNeg = 15 := (i32_kk (K := 15) rfl rfl).mpr (by omega)
      refine ⟨rfl, (gI σ 114), (gI σ 115), ⟨Or.inl, fun q => q.elim id (fun z => z.elim (fun y => absurd y.1 (by rw [ho]; decide)) (fun y => y.elim (fun x => absurd x.1 (by rw [ho]; decide)) (fun x => absurd x.1 (by rw [ho]; decide))))⟩, ?_⟩
      rw [un_id]
      unfold fxS
      rw [if_neg (show ¬ (aI σ 19 c.toNatClampNeg = 3 ∨ aI σ 19 c.toNatClampNeg = 4 ∨ aI σ 19 c.toNatClampNeg = 16) by rw [ho]; decide), if_neg (fun z => absurd (show aI σ 19 c.toNatClampNeg = 5 from z.1) (by rw [ho]; decide)), if_pos (show aI σ 19 c.toNatClampNeg = 15 from ho)]
      all_goals rfl
    have c88 : ¬ (aI σ 19 c.toNatClampNeg).toInt = 15 := fun q => h88 ((rfl : (aI σ 19 c.toNatClampNeg).toInt = (aI σ 19 c.toNatClampNeg).toInt).trans q)
    refine ⟨fun h90 => ?_, fun h90 => ?_⟩
    · have c90 : (aI σ 19 c.toNatClampNeg).toInt = 16 := (rfl : (aI σ 19 c.toNatClampNeg).toInt = (aI σ 19 c.toNatClampNeg).toInt).symm.trans h90
      refine hB _ _ _ _ _ (fun m91 hm91 => ?_)
      dsimp only [ugo, uwp, ust, uct, rfd, BflowExp, BflowExp_464, Nat.beq, lv_args, rlk, rs1, rs2, rdl, rky, rcd, rno, rsw, Value.category, List.filter, List.take, List.drop, List.reverse, List.reverseAux, List.cons_append, List.nil_append, Option.toList, Int.toNat, Int.reduceToNat, if_pos, if_neg, reduceIte, ↓reduceIte, Nat.reduceAdd, Nat.reduceEqDiff, Nat.reduceBEq, beq_self_eq_true, Bool.not_true, Bool.not_false, Bool.and_true, Bool.and_false, Bool.true_and, Bool.false_and, gI_sI, gI_sL, gI_sA, gI_sM, gL_sI, gL_sL, gL_sA, gL_sM, aI_sI, aI_sL, aI_sA, aI_sM, aL_sI, aL_sL, aL_sA, aL_sM]; try dsimp only
      refine ⟨trivial, fun w92 τ92 hq92 => ?_⟩
      obtain ⟨rfl, r92, rfl, hr92⟩ := hq92 trivial
      dsimp only [Option.toList, List.cons_append, List.nil_append, Nat.beq, gI_sI, gI_sL, gI_sA, gI_sM, gL_sI, gL_sL, gL_sA, gL_sM, aI_sI, aI_sL, aI_sA, aI_sM, aL_sI, aL_sL, aL_sA, aL_sM]
      intro p93
      refine ⟨trivial, fun w94 τ94 hq94 => ?_⟩
      obtain ⟨rfl, u94, p94_, hu94, rfl⟩ := hq94 trivial
      dsimp only [Option.toList, List.cons_append, List.nil_append, Nat.beq, gI_sI, gI_sL, gI_sA, gI_sM, gL_sI, gL_sL, gL_sA, gL_sM, aI_sI, aI_sL, aI_sA, aI_sM, aL_sI, aL_sL, aL_sA, aL_sM]
      refine ⟨trivial, fun w95 τ95 hq95 => ?_⟩
      obtain ⟨rfl, rfl⟩ := hq95 trivial
      dsimp only [Option.toList, List.cons_append, List.nil_append, Nat.beq, gI_sI, gI_sL, gI_sA, gI_sM, gL_sI, gL_sL, gL_sA, gL_sM, aI_sI, aI_sL, aI_sA, aI_sM, aL_sI, aL_sL, aL_sA, aL_sM]
      refine ⟨trivial, fun w96 τ96 hq96 => ?_⟩
      obtain ⟨rfl, rfl⟩ := hq96 trivial
      dsimp only [Option.toList, List.cons_append, List.nil_append, Nat.beq, gI_sI, gI_sL, gI_sA, gI_sM, gL_sI, gL_sL, gL_sA, gL_sM, aI_sI, aI_sL, aI_sA, aI_sM, aL_sI, aL_sL, aL_sA, aL_sM]
      unfold Qv_flowExp
      try dsimp only
      have ho : aI σ 19 c.toNatClampNeg = 16 := (i32_kk (K := 16) rfl rfl).mpr (by omega)
      refine ⟨rfl, u94, p94_, ⟨fun q => (hu94.mp q).imp id (fun z => Or.inr (Or.inr ⟨ho, by rw [← hr92]; exact z⟩)), fun q => hu94.mpr (q.imp id (fun z => z.elim (fun y => absurd y.1 (by rw [ho]; decide)) (fun y => y.elim (fun x => absurd x.1 (by rw [ho]; decide)) (fun x => by rw [hr92]; exact x.2))))⟩, ?_⟩
      unfold fxS
      have ho2 : aI (unS σ u94 p94_) 19 c.toNatClampNeg = 16 := ho
      rw [if_pos (show aI (unS σ u94 p94_) 19 c.toNatClampNeg = 3 ∨ aI (unS σ u94 p94_) 19 c.toNatClampNeg = 4 ∨ aI (unS σ u94 p94_) 19 c.toNatClampNeg = 16 by rw [ho2]; decide)]
      all_goals rfl
    have c90 : ¬ (aI σ 19 c.toNatClampNeg).toInt = 16 := fun q => h90 ((rfl : (aI σ 19 c.toNatClampNeg).toInt = (aI σ 19 c.toNatClampNeg).toInt).trans q)
    refine ⟨fun h97 => ?_, fun h97 => ?_⟩
    · have c97 : (aI σ 19 c.toNatClampNeg).toInt = 17 := (rfl : (aI σ 19 c.toNatClampNeg).toInt = (aI σ 19 c.toNatClampNeg).toInt).symm.trans h97
      refine hB _ _ _ _ _ (fun m98 hm98 => ?_)
      dsimp only [ugo, uwp, ust, uct, rfd, BflowExp, BflowExp_492, Nat.beq, lv_args, rlk, rs1, rs2, rdl, rky, rcd, rno, rsw, Value.category, List.filter, List.take, List.drop, List.reverse, List.reverseAux, List.cons_append, List.nil_append, Option.toList, Int.toNat, Int.reduceToNat, if_pos, if_neg, reduceIte, ↓reduceIte, Nat.reduceAdd, Nat.reduceEqDiff, Nat.reduceBEq, beq_self_eq_true, Bool.not_true, Bool.not_false, Bool.and_true, Bool.and_false, Bool.true_and, Bool.false_and, gI_sI, gI_sL, gI_sA, gI_sM, gL_sI, gL_sL, gL_sA, gL_sM, aI_sI, aI_sL, aI_sA, aI_sM, aL_sI, aL_sL, aL_sA, aL_sM]; try dsimp only
      refine ⟨trivial, fun w99 τ99 hq99 => ?_⟩
      obtain ⟨rfl, rfl⟩ := hq99 trivial
      dsimp only [Option.toList, List.cons_append, List.nil_append, Nat.beq, gI_sI, gI_sL, gI_sA, gI_sM, gL_sI, gL_sL, gL_sA, gL_sM, aI_sI, aI_sL, aI_sA, aI_sM, aL_sI, aL_sL, aL_sA, aL_sM]
      intro p100
      refine ⟨trivial, fun w101 τ101 hq101 => ?_⟩
      obtain ⟨rfl, rfl⟩ := hq101 trivial
      dsimp only [Option.toList, List.cons_append, List.nil_append, Nat.beq, gI_sI, gI_sL, gI_sA, gI_sM, gL_sI, gL_sL, gL_sA, gL_sM, aI_sI, aI_sL, aI_sA, aI_sM, aL_sI, aL_sL, aL_sA, aL_sM]
      unfold Qv_flowExp
      try dsimp only
      have ho : aI σ 19 c.toNatClampNeg = 17 := (i32_kk (K := 17) rfl rfl).mpr (by omega)
      refine ⟨rfl, (gI σ 114), (gI σ 115), ⟨Or.inl, fun q => q.elim id (fun z => z.elim (fun y => absurd y.1 (by rw [ho]; decide)) (fun y => y.elim (fun x => absurd x.1 (by rw [ho]; decide)) (fun x => absurd x.1 (by rw [ho]; decide))))⟩, ?_⟩
      rw [un_id]
      unfold fxS
      rw [if_neg (show ¬ (aI σ 19 c.toNatClampNeg = 3 ∨ aI σ 19 c.toNatClampNeg = 4 ∨ aI σ 19 c.toNatClampNeg = 16) by rw [ho]; decide), if_neg (fun z => absurd (show aI σ 19 c.toNatClampNeg = 5 from z.1) (by rw [ho]; decide)), if_neg (show ¬ aI σ 19 c.toNatClampNeg = 15 by rw [ho]; decide), if_neg (show ¬ (aI σ 19 c.toNatClampNeg = 8 ∨ aI σ 19 c.toNatClampNeg = 12) by rw [ho]; decide), if_neg (show ¬ aI σ 19 c.toNatClampNeg = 9 by rw [ho]; decide), if_neg (show ¬ aI σ 19 c.toNatClampNeg = 10 by rw [ho]; decide), if_neg (show ¬ aI σ 19 c.toNatClampNeg = 11 by rw [ho]; decide), if_neg (show ¬ aI σ 19 c.toNatClampNeg = 13 by rw [ho]; decide), if_neg (show ¬ aI σ 19 c.toNatClampNeg = 14 by rw [ho]; decide), if_pos (show aI σ 19 c.toNatClampNeg = 17 from ho)]
      all_goals rfl
    have c97 : ¬ (aI σ 19 c.toNatClampNeg).toInt = 17 := fun q => h97 ((rfl : (aI σ 19 c.toNatClampNeg).toInt = (aI σ 19 c.toNatClampNeg).toInt).trans q)
    refine hB _ _ _ _ _ (fun m102 hm102 => ?_)
    dsimp only [ugo, uwp, ust, uct, rfd, BflowExp, BflowExp_510, Nat.beq, lv_args, rlk, rs1, rs2, rdl, rky, rcd, rno, rsw, Value.category, List.filter, List.take, List.drop, List.reverse, List.reverseAux, List.cons_append, List.nil_append, Option.toList, Int.toNat, Int.reduceToNat, if_pos, if_neg, reduceIte, ↓reduceIte, Nat.reduceAdd, Nat.reduceEqDiff, Nat.reduceBEq, beq_self_eq_true, Bool.not_true, Bool.not_false, Bool.and_true, Bool.and_false, Bool.true_and, Bool.false_and, gI_sI, gI_sL, gI_sA, gI_sM, gL_sI, gL_sL, gL_sA, gL_sM, aI_sI, aI_sL, aI_sA, aI_sM, aL_sI, aL_sL, aL_sA, aL_sM]; try dsimp only
    refine ⟨trivial, fun w103 τ103 hq103 => ?_⟩
    obtain ⟨rfl, rfl⟩ := hq103 trivial
    dsimp only [Option.toList, List.cons_append, List.nil_append, Nat.beq, gI_sI, gI_sL, gI_sA, gI_sM, gL_sI, gL_sL, gL_sA, gL_sM, aI_sI, aI_sL, aI_sA, aI_sM, aL_sI, aL_sL, aL_sA, aL_sM]
    unfold Qv_flowExp
    try dsimp only
    have hno : ∀ q : Int32, 2 ≤ q.toInt → q.toInt ≤ 17 → ¬ q.toInt = 6 → ¬ q.toInt = 7 → ¬ aI σ 19 c.toNatClampNeg = q := fun q h1 h2 h6 h7 z => by have y := congrArg Int32.toInt z; omega
    refine ⟨rfl, (gI σ 114), (gI σ 115), ⟨Or.inl, fun q => q.elim id (fun z => z.elim (fun y => absurd y.1 (hno 2 (by decide) (by decide) (by decide) (by decide))) (fun y => y.elim (fun x => x.1.elim (fun t => absurd t (hno 3 (by decide) (by decide) (by decide) (by decide))) (fun t => absurd t (hno 4 (by decide) (by decide) (by decide) (by decide)))) (fun x => absurd x.1 (hno 16 (by decide) (by decide) (by decide) (by decide)))))⟩, ?_⟩
    rw [un_id]
    unfold fxS
    rw [if_neg (by rintro (z | z | z) <;> exact hno _ (by decide) (by decide) (by decide) (by decide) z), if_neg (fun z => hno _ (by decide) (by decide) (by decide) (by decide) z.1), if_neg (hno _ (by decide) (by decide) (by decide) (by decide)), if_neg (by rintro (z | z) <;> exact hno _ (by decide) (by decide) (by decide) (by decide) z), if_neg (hno _ (by decide) (by decide) (by decide) (by decide)), if_neg (hno _ (by decide) (by decide) (by decide) (by decide)), if_neg (hno _ (by decide) (by decide) (by decide) (by decide)), if_neg (hno _ (by decide) (by decide) (by decide) (by decide)), if_neg (hno _ (by decide) (by decide) (by decide) (by decide)), if_neg (hno _ (by decide) (by decide) (by decide) (by decide))]
    all_goals rfl
  next => exact hP.elim
theorem w_flowExp : UMet 117 (fun _ _ => True) Qw_flowExp := fun A1 σ _ w τ h hP => v_flowExp A1 σ hP w τ h
