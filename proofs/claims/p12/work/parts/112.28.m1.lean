theorem sI_id {σ : RS} {k : Nat} : sI σ k (gI σ k) = σ := Prod.ext (funext fun j => by by_cases h : j = k <;> simp [sI, gI, h, nb_eq, nb_ne]) rfl
def P_at : RP := fun As σ => match As with
  | [.int k] => 0 ≤ k ∧ (gI σ 12) ≤ 2500
  | _ => False
def Q_at : RQ := fun As σ w τ => match As with
  | [.int k] => ∃ r : Int32, w = some (.int r) ∧ τ = σ
  | _ => False
set_option maxRecDepth 100000 in
set_option maxHeartbeats 4000000 in
theorem b_at : Bod Bat [] P_at Q_at := by
  · intro As σ hP G hB hW
    unfold P_at at hP
    split at hP
    next k => 
      unfold Q_at at hB
      dsimp only at hB
      repeat' first
        | apply And.intro
        | refine in_0 ?_ ?_
        | (rintro w τ ⟨r, rfl, hq, rfl⟩; dsimp only [Option.toList, List.cons_append, List.nil_append])
        | (rintro w τ ⟨rfl, rfl⟩; dsimp only [Option.toList, List.cons_append, List.nil_append])
        | (rintro w τ ⟨r, rfl, hq⟩; dsimp only [Option.toList, List.cons_append, List.nil_append])
        | (rintro w τ ⟨rfl, hq⟩; dsimp only [Option.toList, List.nil_append])
        | intro _
        | rfl
        | trivial
        | (apply hB; dsimp only [rgo, rfd, Bat, Nat.beq, rwp, rst, lv_args, rlk, rs1, rs2, rdl, rky, rct, rcs, rcd, rno, rsw, Value.category, List.filter, List.take, List.drop, List.reverse, List.reverseAux, List.cons_append, List.nil_append, Option.toList, Int.toNat, Int.reduceToNat, if_pos, if_neg, reduceIte, ↓reduceIte, Nat.reduceAdd, Nat.reduceEqDiff, Nat.reduceBEq, beq_self_eq_true, Bool.not_true, Bool.not_false, Bool.and_true, Bool.and_false, Bool.true_and, Bool.false_and, gI_sI, gI_sL, gI_sA, gI_sM, gL_sI, gL_sL, gL_sA, gL_sM, aI_sI, aI_sL, aI_sA, aI_sM, aL_sI, aL_sL, aL_sA, aL_sM, Bat_0, Bat_8, Bat_17, Bat_18, oi_0]; try dsimp only)
        | exact Or.inl rfl
        | exact Or.inr rfl
        | decide
        | (first | exact ⟨_, rfl, rfl⟩ | lia)
    next => exact hP.elim
theorem m_at (l : Launch) : RMet l 1 3 P_at Q_at := by
  refine RMet.by Bat [] roat okBat ct0 ?_ b_at
  · intro As σ hP
    unfold P_at at hP
    split at hP
    next => exact Nat.le_of_ble_eq_true rfl
    next => exact hP.elim
set_option maxRecDepth 100000 in
theorem e_at (l : Launch) : RMetE l 1 3 P_at Q_at := by
  refine RMetE.by Bat [] rfl rfl roat okBat ctE0 ?_ b_at
  · intro As σ hP
    unfold P_at at hP
    split at hP
    next => exact Nat.le_of_ble_eq_true rfl
    next => exact hP.elim
def P_isLetter : RP := fun As σ => match As with
  | [.int b] => True
  | _ => False
def Q_isLetter : RQ := fun As σ w τ => match As with
  | [.int b] => ∃ r : Int32, w = some (.int r) ∧ (r = 0 ∨ r = 1) ∧ τ = σ
  | _ => False
set_option maxRecDepth 100000 in
set_option maxHeartbeats 4000000 in
theorem b_isLetter : Bod BisLetter [] P_isLetter Q_isLetter := by
  · intro As σ hP G hB hW
    unfold P_isLetter at hP
    split at hP
    next b => 
      unfold Q_isLetter at hB
      dsimp only at hB
      repeat' first
        | apply And.intro
        | (rintro w τ ⟨r, rfl, hq, rfl⟩; dsimp only [Option.toList, List.cons_append, List.nil_append])
        | (rintro w τ ⟨rfl, rfl⟩; dsimp only [Option.toList, List.cons_append, List.nil_append])
        | (rintro w τ ⟨r, rfl, hq⟩; dsimp only [Option.toList, List.cons_append, List.nil_append])
        | (rintro w τ ⟨rfl, hq⟩; dsimp only [Option.toList, List.nil_append])
        | intro _
        | rfl
        | trivial
        | (apply hB; dsimp only [rgo, rfd, BisLetter, Nat.beq, rwp, rst, lv_args, rlk, rs1, rs2, rdl, rky, rct, rcs, rcd, rno, rsw, Value.category, List.filter, List.take, List.drop, List.reverse, List.reverseAux, List.cons_append, List.nil_append, Option.toList, Int.toNat, Int.reduceToNat, if_pos, if_neg, reduceIte, ↓reduceIte, Nat.reduceAdd, Nat.reduceEqDiff, Nat.reduceBEq, beq_self_eq_true, Bool.not_true, Bool.not_false, Bool.and_true, Bool.and_false, Bool.true_and, Bool.false_and, gI_sI, gI_sL, gI_sA, gI_sM, gL_sI, gL_sL, gL_sA, gL_sM, aI_sI, aI_sL, aI_sA, aI_sM, aL_sI, aL_sL, aL_sA, aL_sM, BisLetter_0, BisLetter_6, BisLetter_12, BisLetter_18, BisLetter_24, BisLetter_28, BisLetter_29, oi_0, oi_1, oi_122, oi_65, oi_90, oi_97]; try dsimp only)
        | exact Or.inl rfl
        | exact Or.inr rfl
        | decide
        | (first | lia | exact ⟨_, rfl, Or.inl rfl, rfl⟩ | exact ⟨_, rfl, Or.inr rfl, rfl⟩)
    next => exact hP.elim
theorem m_isLetter (l : Launch) : RMet l 1 4 P_isLetter Q_isLetter := by
  refine RMet.by BisLetter [] roisLetter okBisLetter ct0 ?_ b_isLetter
  · intro As σ hP
    unfold P_isLetter at hP
    split at hP
    next => exact Nat.le_of_ble_eq_true rfl
    next => exact hP.elim
set_option maxRecDepth 100000 in
theorem e_isLetter (l : Launch) : RMetE l 1 4 P_isLetter Q_isLetter := by
  refine RMetE.by BisLetter [] rfl rfl roisLetter okBisLetter ctE0 ?_ b_isLetter
  · intro As σ hP
    unfold P_isLetter at hP
    split at hP
    next => exact Nat.le_of_ble_eq_true rfl
    next => exact hP.elim
def P_isDigit : RP := fun As σ => match As with
  | [.int b] => True
  | _ => False
def Q_isDigit : RQ := fun As σ w τ => match As with
  | [.int b] => ∃ r : Int32, w = some (.int r) ∧ (r = 0 ∨ r = 1) ∧ τ = σ
  | _ => False
set_option maxRecDepth 100000 in
set_option maxHeartbeats 4000000 in
theorem b_isDigit : Bod BisDigit [] P_isDigit Q_isDigit := by
  · intro As σ hP G hB hW
    unfold P_isDigit at hP
    split at hP
    next b => 
      unfold Q_isDigit at hB
      dsimp only at hB
      repeat' first
        | apply And.intro
        | (rintro w τ ⟨r, rfl, hq, rfl⟩; dsimp only [Option.toList, List.cons_append, List.nil_append])
        | (rintro w τ ⟨rfl, rfl⟩; dsimp only [Option.toList, List.cons_append, List.nil_append])
        | (rintro w τ ⟨r, rfl, hq⟩; dsimp only [Option.toList, List.cons_append, List.nil_append])
        | (rintro w τ ⟨rfl, hq⟩; dsimp only [Option.toList, List.nil_append])
        | intro _
        | rfl
        | trivial
        | (apply hB; dsimp only [rgo, rfd, BisDigit, Nat.beq, rwp, rst, lv_args, rlk, rs1, rs2, rdl, rky, rct, rcs, rcd, rno, rsw, Value.category, List.filter, List.take, List.drop, List.reverse, List.reverseAux, List.cons_append, List.nil_append, Option.toList, Int.toNat, Int.reduceToNat, if_pos, if_neg, reduceIte, ↓reduceIte, Nat.reduceAdd, Nat.reduceEqDiff, Nat.reduceBEq, beq_self_eq_true, Bool.not_true, Bool.not_false, Bool.and_true, Bool.and_false, Bool.true_and, Bool.false_and, gI_sI, gI_sL, gI_sA, gI_sM, gL_sI, gL_sL, gL_sA, gL_sM, aI_sI, aI_sL, aI_sA, aI_sM, aL_sI, aL_sL, aL_sA, aL_sM, BisDigit_0, BisDigit_6, BisDigit_12, BisDigit_16, BisDigit_17, oi_0, oi_1, oi_48, oi_57]; try dsimp only)
        | exact Or.inl rfl
        | exact Or.inr rfl
        | decide
        | (first | lia | exact ⟨_, rfl, Or.inl rfl, rfl⟩ | exact ⟨_, rfl, Or.inr rfl, rfl⟩)
    next => exact hP.elim
theorem m_isDigit (l : Launch) : RMet l 1 5 P_isDigit Q_isDigit := by
  refine RMet.by BisDigit [] roisDigit okBisDigit ct0 ?_ b_isDigit
  · intro As σ hP
    unfold P_isDigit at hP
    split at hP
    next => exact Nat.le_of_ble_eq_true rfl
    next => exact hP.elim
set_option maxRecDepth 100000 in
theorem e_isDigit (l : Launch) : RMetE l 1 5 P_isDigit Q_isDigit := by
  refine RMetE.by BisDigit [] rfl rfl roisDigit okBisDigit ctE0 ?_ b_isDigit
  · intro As σ hP
    unfold P_isDigit at hP
    split at hP
    next => exact Nat.le_of_ble_eq_true rfl
    next => exact hP.elim
def P_isSign : RP := fun As σ => match As with
  | [.int b] => 0 ≤ (gI σ 14) ∧ (gI σ 14) ≤ 500
  | _ => False
def Q_isSign : RQ := fun As σ w τ => match As with
  | [.int b] => ∃ r : Int32, w = some (.int r) ∧ (r = 0 ∨ (r = 1 ∧ aI σ 6 (gI σ 14).toNatClampNeg = b)) ∧ τ = σ
  | _ => False
set_option maxRecDepth 100000 in
set_option maxHeartbeats 4000000 in
theorem b_isSign : Bod BisSign [] P_isSign Q_isSign := by
  · intro As σ hP G hB hW
    unfold P_isSign at hP
    split at hP
    next b => 
      unfold Q_isSign at hB
      dsimp only at hB
      repeat' first
        | apply And.intro
        | refine in_3 ?_ ?_
        | refine in_6 ?_ ?_
        | (rintro w τ ⟨r, rfl, hq, rfl⟩; dsimp only [Option.toList, List.cons_append, List.nil_append])
        | (rintro w τ ⟨rfl, rfl⟩; dsimp only [Option.toList, List.cons_append, List.nil_append])
        | (rintro w τ ⟨r, rfl, hq⟩; dsimp only [Option.toList, List.cons_append, List.nil_append])
        | (rintro w τ ⟨rfl, hq⟩; dsimp only [Option.toList, List.nil_append])
        | intro _
        | rfl
        | trivial
        | (apply hB; dsimp only [rgo, rfd, BisSign, Nat.beq, rwp, rst, lv_args, rlk, rs1, rs2, rdl, rky, rct, rcs, rcd, rno, rsw, Value.category, List.filter, List.take, List.drop, List.reverse, List.reverseAux, List.cons_append, List.nil_append, Option.toList, Int.toNat, Int.reduceToNat, if_pos, if_neg, reduceIte, ↓reduceIte, Nat.reduceAdd, Nat.reduceEqDiff, Nat.reduceBEq, beq_self_eq_true, Bool.not_true, Bool.not_false, Bool.and_true, Bool.and_false, Bool.true_and, Bool.false_and, gI_sI, gI_sL, gI_sA, gI_sM, gL_sI, gL_sL, gL_sA, gL_sM, aI_sI, aI_sL, aI_sA, aI_sM, aL_sI, aL_sL, aL_sA, aL_sM, BisSign_0, BisSign_13, BisSign_26, BisSign_30, BisSign_31, oi_0, oi_1, oi_5]; try dsimp only)
        | exact Or.inl rfl
        | exact Or.inr rfl
        | decide
        | (first | lia | exact ⟨_, rfl, Or.inl rfl, rfl⟩ | exact ⟨_, rfl, Or.inr ⟨rfl, by assumption⟩, rfl⟩)
    next => exact hP.elim
theorem m_isSign (l : Launch) : RMet l 1 14 P_isSign Q_isSign := by
  refine RMet.by BisSign [] roisSign okBisSign ct0 ?_ b_isSign
  · intro As σ hP
    unfold P_isSign at hP
    split at hP
    next => exact Nat.le_of_ble_eq_true rfl
    next => exact hP.elim
set_option maxRecDepth 100000 in
theorem e_isSign (l : Launch) : RMetE l 1 14 P_isSign Q_isSign := by
  refine RMetE.by BisSign [] rfl rfl roisSign okBisSign ctE0 ?_ b_isSign
  · intro As σ hP
    unfold P_isSign at hP
    split at hP
    next => exact Nat.le_of_ble_eq_true rfl
    next => exact hP.elim
def P_isWord : RP := fun As σ => match As with
  | [.int b] => 0 ≤ (gI σ 14) ∧ (gI σ 14) ≤ 500
  | _ => False
def Q_isWord : RQ := fun As σ w τ => match As with
  | [.int b] => ∃ r : Int32, w = some (.int r) ∧ (r = 0 ∨ r = 1) ∧ τ = σ
  | _ => False
set_option maxRecDepth 100000 in
set_option maxHeartbeats 4000000 in
theorem b_isWord : Bod BisWord [] P_isWord Q_isWord := by
  · intro As σ hP G hB hW
    unfold P_isWord at hP
    split at hP
    next b => 
      unfold Q_isWord at hB
      dsimp only at hB
      repeat' first
        | apply And.intro
        | refine in_3 ?_ ?_
        | refine in_6 ?_ ?_
        | (rintro w τ ⟨r, rfl, hq, rfl⟩; dsimp only [Option.toList, List.cons_append, List.nil_append])
        | (rintro w τ ⟨rfl, rfl⟩; dsimp only [Option.toList, List.cons_append, List.nil_append])
        | (rintro w τ ⟨r, rfl, hq⟩; dsimp only [Option.toList, List.cons_append, List.nil_append])
        | (rintro w τ ⟨rfl, hq⟩; dsimp only [Option.toList, List.nil_append])
        | intro _
        | rfl
        | trivial
        | (apply hB; dsimp only [rgo, rfd, BisWord, Nat.beq, rwp, rst, lv_args, rlk, rs1, rs2, rdl, rky, rct, rcs, rcd, rno, rsw, Value.category, List.filter, List.take, List.drop, List.reverse, List.reverseAux, List.cons_append, List.nil_append, Option.toList, Int.toNat, Int.reduceToNat, if_pos, if_neg, reduceIte, ↓reduceIte, Nat.reduceAdd, Nat.reduceEqDiff, Nat.reduceBEq, beq_self_eq_true, Bool.not_true, Bool.not_false, Bool.and_true, Bool.and_false, Bool.true_and, Bool.false_and, gI_sI, gI_sL, gI_sA, gI_sM, gL_sI, gL_sL, gL_sA, gL_sM, aI_sI, aI_sL, aI_sA, aI_sM, aL_sI, aL_sL, aL_sA, aL_sM, BisWord_0, BisWord_13, BisWord_26, BisWord_30, BisWord_31, oi_0, oi_1, oi_4]; try dsimp only)
        | exact Or.inl rfl
        | exact Or.inr rfl
        | decide
        | (first | lia | exact ⟨_, rfl, Or.inl rfl, rfl⟩ | exact ⟨_, rfl, Or.inr rfl, rfl⟩)
    next => exact hP.elim
theorem m_isWord (l : Launch) : RMet l 1 15 P_isWord Q_isWord := by
  refine RMet.by BisWord [] roisWord okBisWord ct0 ?_ b_isWord
  · intro As σ hP
    unfold P_isWord at hP
    split at hP
    next => exact Nat.le_of_ble_eq_true rfl
    next => exact hP.elim
set_option maxRecDepth 100000 in
theorem e_isWord (l : Launch) : RMetE l 1 15 P_isWord Q_isWord := by
  refine RMetE.by BisWord [] rfl rfl roisWord okBisWord ctE0 ?_ b_isWord
  · intro As σ hP
    unfold P_isWord at hP
    split at hP
    next => exact Nat.le_of_ble_eq_true rfl
    next => exact hP.elim
def P_isSignAt : RP := fun As σ => match As with
  | [.int t, .int s] => 0 ≤ t ∧ t ≤ 2000
  | _ => False
def Q_isSignAt : RQ := fun As σ w τ => match As with
  | [.int t, .int s] => ∃ r : Int32, w = some (.int r) ∧ (r = 0 ∨ (r = 1 ∧ aI σ 6 (t).toNatClampNeg = s)) ∧ τ = σ
  | _ => False
set_option maxRecDepth 100000 in
set_option maxHeartbeats 4000000 in
theorem b_isSignAt : Bod BisSignAt [] P_isSignAt Q_isSignAt := by
  · intro As σ hP G hB hW
    unfold P_isSignAt at hP
    split at hP
    next t s => 
      unfold Q_isSignAt at hB
      dsimp only at hB
      repeat' first
        | apply And.intro
        | refine in_3 ?_ ?_
        | refine in_6 ?_ ?_
        | (rintro w τ ⟨r, rfl, hq, rfl⟩; dsimp only [Option.toList, List.cons_append, List.nil_append])
        | (rintro w τ ⟨rfl, rfl⟩; dsimp only [Option.toList, List.cons_append, List.nil_append])
        | (rintro w τ ⟨r, rfl, hq⟩; dsimp only [Option.toList, List.cons_append, List.nil_append])
        | (rintro w τ ⟨rfl, hq⟩; dsimp only [Option.toList, List.nil_append])
        | intro _
        | rfl
        | trivial
        | (apply hB; dsimp only [rgo, rfd, BisSignAt, Nat.beq, rwp, rst, lv_args, rlk, rs1, rs2, rdl, rky, rct, rcs, rcd, rno, rsw, Value.category, List.filter, List.take, List.drop, List.reverse, List.reverseAux, List.cons_append, List.nil_append, Option.toList, Int.toNat, Int.reduceToNat, if_pos, if_neg, reduceIte, ↓reduceIte, Nat.reduceAdd, Nat.reduceEqDiff, Nat.reduceBEq, beq_self_eq_true, Bool.not_true, Bool.not_false, Bool.and_true, Bool.and_false, Bool.true_and, Bool.false_and, gI_sI, gI_sL, gI_sA, gI_sM, gL_sI, gL_sL, gL_sA, gL_sM, aI_sI, aI_sL, aI_sA, aI_sM, aL_sI, aL_sL, aL_sA, aL_sM, BisSignAt_0, BisSignAt_8, BisSignAt_18, BisSignAt_28, BisSignAt_32, BisSignAt_33, oi_0, oi_1, oi_5]; try dsimp only)
        | exact Or.inl rfl
        | exact Or.inr rfl
        | decide
        | (first | lia | exact ⟨_, rfl, Or.inl rfl, rfl⟩ | exact ⟨_, rfl, Or.inr ⟨rfl, by assumption⟩, rfl⟩)
    next => exact hP.elim
theorem m_isSignAt (l : Launch) : RMet l 1 16 P_isSignAt Q_isSignAt := by
  refine RMet.by BisSignAt [] roisSignAt okBisSignAt ct0 ?_ b_isSignAt
  · intro As σ hP
    unfold P_isSignAt at hP
    split at hP
    next => exact Nat.le_of_ble_eq_true rfl
    next => exact hP.elim
set_option maxRecDepth 100000 in
theorem e_isSignAt (l : Launch) : RMetE l 1 16 P_isSignAt Q_isSignAt := by
  refine RMetE.by BisSignAt [] rfl rfl roisSignAt okBisSignAt ctE0 ?_ b_isSignAt
  · intro As σ hP
    unfold P_isSignAt at hP
    split at hP
    next => exact Nat.le_of_ble_eq_true rfl
    next => exact hP.elim
def P_isType : RP := fun As σ => match As with
  | [.int t] => 0 ≤ t ∧ t ≤ 2000
  | _ => False
def Q_isType : RQ := fun As σ w τ => match As with
  | [.int t] => ∃ r : Int32, w = some (.int r) ∧ (r = 0 ∨ (r = 1 ∧ aI σ 6 (t).toNatClampNeg ≤ 4)) ∧ τ = σ
  | _ => False
set_option maxRecDepth 100000 in
set_option maxHeartbeats 4000000 in
theorem b_isType : Bod BisType [] P_isType Q_isType := by
  · intro As σ hP G hB hW
    unfold P_isType at hP
    split at hP
    next t => 
      unfold Q_isType at hB
      dsimp only at hB
      repeat' first
        | apply And.intro
        | refine in_3 ?_ ?_
        | refine in_6 ?_ ?_
        | (rintro w τ ⟨r, rfl, hq, rfl⟩; dsimp only [Option.toList, List.cons_append, List.nil_append])
        | (rintro w τ ⟨rfl, rfl⟩; dsimp only [Option.toList, List.cons_append, List.nil_append])
        | (rintro w τ ⟨r, rfl, hq⟩; dsimp only [Option.toList, List.cons_append, List.nil_append])
        | (rintro w τ ⟨rfl, hq⟩; dsimp only [Option.toList, List.nil_append])
        | intro _
        | rfl
        | trivial
        | (apply hB; dsimp only [rgo, rfd, BisType, Nat.beq, rwp, rst, lv_args, rlk, rs1, rs2, rdl, rky, rct, rcs, rcd, rno, rsw, Value.category, List.filter, List.take, List.drop, List.reverse, List.reverseAux, List.cons_append, List.nil_append, Option.toList, Int.toNat, Int.reduceToNat, if_pos, if_neg, reduceIte, ↓reduceIte, Nat.reduceAdd, Nat.reduceEqDiff, Nat.reduceBEq, beq_self_eq_true, Bool.not_true, Bool.not_false, Bool.and_true, Bool.and_false, Bool.true_and, Bool.false_and, gI_sI, gI_sL, gI_sA, gI_sM, gL_sI, gL_sL, gL_sA, gL_sM, aI_sI, aI_sL, aI_sA, aI_sM, aL_sI, aL_sL, aL_sA, aL_sM, BisType_0, BisType_10, BisType_20, BisType_24, BisType_25, oi_0, oi_1, oi_4]; try dsimp only)
        | exact Or.inl rfl
        | exact Or.inr rfl
        | decide
        | (first | lia | exact ⟨_, rfl, Or.inl rfl, rfl⟩ | exact ⟨_, rfl, Or.inr ⟨rfl, by lia⟩, rfl⟩)
    next => exact hP.elim
theorem m_isType (l : Launch) : RMet l 1 23 P_isType Q_isType := by
  refine RMet.by BisType [] roisType okBisType ct0 ?_ b_isType
  · intro As σ hP
    unfold P_isType at hP
    split at hP
    next => exact Nat.le_of_ble_eq_true rfl
    next => exact hP.elim
set_option maxRecDepth 100000 in
theorem e_isType (l : Launch) : RMetE l 1 23 P_isType Q_isType := by
  refine RMetE.by BisType [] rfl rfl roisType okBisType ctE0 ?_ b_isType
  · intro As σ hP
    unfold P_isType at hP
    split at hP
    next => exact Nat.le_of_ble_eq_true rfl
    next => exact hP.elim
def P_isSetAt : RP := fun As σ => match As with
  | [.int t] => 0 ≤ t ∧ t ≤ 2000
  | _ => False
def Q_isSetAt : RQ := fun As σ w τ => match As with
  | [.int t] => ∃ r : Int32, w = some (.int r) ∧ (r = 0 ∨ (r = 1 ∧ (aI σ 6 (t).toNatClampNeg = 61 ∨ 400 < aI σ 6 (t).toNatClampNeg))) ∧ τ = σ
  | _ => False
set_option maxRecDepth 100000 in
set_option maxHeartbeats 4000000 in
theorem b_isSetAt : Bod BisSetAt [] P_isSetAt Q_isSetAt := by
  · intro As σ hP G hB hW
    unfold P_isSetAt at hP
    split at hP
    next t => 
      unfold Q_isSetAt at hB
      dsimp only at hB
      repeat' first
        | apply And.intro
        | refine in_3 ?_ ?_
        | refine in_6 ?_ ?_
        | (rintro w τ ⟨r, rfl, hq, rfl⟩; dsimp only [Option.toList, List.cons_append, List.nil_append])
        | (rintro w τ ⟨rfl, rfl⟩; dsimp only [Option.toList, List.cons_append, List.nil_append])
        | (rintro w τ ⟨r, rfl, hq⟩; dsimp only [Option.toList, List.cons_append, List.nil_append])
        | (rintro w τ ⟨rfl, hq⟩; dsimp only [Option.toList, List.nil_append])
        | intro _
        | rfl
        | trivial
        | (apply hB; dsimp only [rgo, rfd, BisSetAt, Nat.beq, rwp, rst, lv_args, rlk, rs1, rs2, rdl, rky, rct, rcs, rcd, rno, rsw, Value.category, List.filter, List.take, List.drop, List.reverse, List.reverseAux, List.cons_append, List.nil_append, Option.toList, Int.toNat, Int.reduceToNat, if_pos, if_neg, reduceIte, ↓reduceIte, Nat.reduceAdd, Nat.reduceEqDiff, Nat.reduceBEq, beq_self_eq_true, Bool.not_true, Bool.not_false, Bool.and_true, Bool.and_false, Bool.true_and, Bool.false_and, gI_sI, gI_sL, gI_sA, gI_sM, gL_sI, gL_sL, gL_sA, gL_sM, aI_sI, aI_sL, aI_sA, aI_sM, aL_sI, aL_sL, aL_sA, aL_sM, BisSetAt_0, BisSetAt_10, BisSetAt_21, BisSetAt_33, BisSetAt_37, BisSetAt_38, oi_0, oi_1, oi_400, oi_5, oi_61]; try dsimp only)
        | exact Or.inl rfl
        | exact Or.inr rfl
        | decide
        | (first | lia | exact ⟨_, rfl, Or.inl rfl, rfl⟩ | exact ⟨_, rfl, Or.inr ⟨rfl, Or.inl (by assumption)⟩, rfl⟩ | exact ⟨_, rfl, Or.inr ⟨rfl, Or.inr (by lia)⟩, rfl⟩)
    next => exact hP.elim
theorem m_isSetAt (l : Launch) : RMet l 1 24 P_isSetAt Q_isSetAt := by
  refine RMet.by BisSetAt [] roisSetAt okBisSetAt ct0 ?_ b_isSetAt
  · intro As σ hP
    unfold P_isSetAt at hP
    split at hP
    next => exact Nat.le_of_ble_eq_true rfl
    next => exact hP.elim
set_option maxRecDepth 100000 in
theorem e_isSetAt (l : Launch) : RMetE l 1 24 P_isSetAt Q_isSetAt := by
  refine RMetE.by BisSetAt [] rfl rfl roisSetAt okBisSetAt ctE0 ?_ b_isSetAt
  · intro As σ hP
    unfold P_isSetAt at hP
    split at hP
    next => exact Nat.le_of_ble_eq_true rfl
    next => exact hP.elim
def P_wrong : RP := fun As σ => match As with
  | [.int a, .int t] => 0 ≤ t ∧ t ≤ 2000
  | _ => False
def Q_wrong : RQ := fun As σ w τ => match As with
  | [.int a, .int t] => ∃ r : Int32, w = some (.int r) ∧ r = 0 ∧ ∃ a b : Int32, τ = sI (sI σ 15 a) 16 b
  | _ => False
set_option maxRecDepth 100000 in
set_option maxHeartbeats 4000000 in
theorem b_wrong : Bod Bwrong [] P_wrong Q_wrong := by
  · intro As σ hP G hB hW
    unfold P_wrong at hP
    split at hP
    next a t => 
      unfold Q_wrong at hB
      dsimp only at hB
      repeat' first
        | apply And.intro
        | refine in_4 ?_ ?_
        | (rintro w τ ⟨r, rfl, hq, rfl⟩; dsimp only [Option.toList, List.cons_append, List.nil_append])
        | (rintro w τ ⟨rfl, rfl⟩; dsimp only [Option.toList, List.cons_append, List.nil_append])
        | (rintro w τ ⟨r, rfl, hq⟩; dsimp only [Option.toList, List.cons_append, List.nil_append])
        | (rintro w τ ⟨rfl, hq⟩; dsimp only [Option.toList, List.nil_append])
        | intro _
        | rfl
        | trivial
        | (apply hB; dsimp only [rgo, rfd, Bwrong, Nat.beq, rwp, rst, lv_args, rlk, rs1, rs2, rdl, rky, rct, rcs, rcd, rno, rsw, Value.category, List.filter, List.take, List.drop, List.reverse, List.reverseAux, List.cons_append, List.nil_append, Option.toList, Int.toNat, Int.reduceToNat, if_pos, if_neg, reduceIte, ↓reduceIte, Nat.reduceAdd, Nat.reduceEqDiff, Nat.reduceBEq, beq_self_eq_true, Bool.not_true, Bool.not_false, Bool.and_true, Bool.and_false, Bool.true_and, Bool.false_and, gI_sI, gI_sL, gI_sA, gI_sM, gL_sI, gL_sL, gL_sA, gL_sM, aI_sI, aI_sL, aI_sA, aI_sM, aL_sI, aL_sL, aL_sA, aL_sM, Bwrong_0, Bwrong_7, Bwrong_22, oi_0]; try dsimp only)
        | exact Or.inl rfl
        | exact Or.inr rfl
        | decide
        | (first | lia | exact ⟨_, rfl, rfl, _, _, rfl⟩ | exact ⟨_, rfl, rfl, gI σ 15, gI σ 16, by simp only [sI_id]⟩)
    next => exact hP.elim
theorem m_wrong (l : Launch) : RMet l 1 12 P_wrong Q_wrong := by
  refine RMet.by Bwrong [] rowrong okBwrong ct0 ?_ b_wrong
  · intro As σ hP
    unfold P_wrong at hP
    split at hP
    next => exact Nat.le_of_ble_eq_true rfl
    next => exact hP.elim
set_option maxRecDepth 100000 in
theorem e_wrong (l : Launch) : RMetE l 1 12 P_wrong Q_wrong := by
  refine RMetE.by Bwrong [] rfl rfl rowrong okBwrong ctE0 ?_ b_wrong
  · intro As σ hP
    unfold P_wrong at hP
    split at hP
    next => exact Nat.le_of_ble_eq_true rfl
    next => exact hP.elim
def P_cant : RP := fun As σ => match As with
  | [] => 0 ≤ (gI σ 14) ∧ (gI σ 14) ≤ 500
  | _ => False
def Q_cant : RQ := fun As σ w τ => match As with
  | [] => ∃ r : Int32, w = some (.int r) ∧ r = 0 ∧ ∃ a b : Int32, τ = sI (sI σ 15 a) 16 b
  | _ => False
set_option maxRecDepth 100000 in
set_option maxHeartbeats 4000000 in
theorem b_cant : Bod Bcant [(12, P_wrong, Q_wrong)] P_cant Q_cant := by
  · intro As σ hP G hB hW
    unfold P_cant at hP
    split at hP
    next => 
      unfold Q_cant at hB
      dsimp only at hB
      repeat' first
        | apply And.intro
        | refine in_3 ?_ ?_
        | (rintro w τ ⟨r, rfl, hq, rfl⟩; dsimp only [Option.toList, List.cons_append, List.nil_append])
        | (rintro w τ ⟨rfl, rfl⟩; dsimp only [Option.toList, List.cons_append, List.nil_append])
        | (rintro w τ ⟨r, rfl, hq⟩; dsimp only [Option.toList, List.cons_append, List.nil_append])
        | (rintro w τ ⟨rfl, hq⟩; dsimp only [Option.toList, List.nil_append])
        | intro _
        | rfl
        | trivial
        | (apply hB; dsimp only [rgo, rfd, Bcant, Nat.beq, rwp, rst, lv_args, rlk, rs1, rs2, rdl, rky, rct, rcs, rcd, rno, rsw, Value.category, List.filter, List.take, List.drop, List.reverse, List.reverseAux, List.cons_append, List.nil_append, Option.toList, Int.toNat, Int.reduceToNat, if_pos, if_neg, reduceIte, ↓reduceIte, Nat.reduceAdd, Nat.reduceEqDiff, Nat.reduceBEq, beq_self_eq_true, Bool.not_true, Bool.not_false, Bool.and_true, Bool.and_false, Bool.true_and, Bool.false_and, gI_sI, gI_sL, gI_sA, gI_sM, gL_sI, gL_sL, gL_sA, gL_sM, aI_sI, aI_sL, aI_sA, aI_sM, aL_sI, aL_sL, aL_sA, aL_sM, Bcant_0, Bcant_15, Bcant_19, Bcant_20, oi_1, oi_2, oi_6, P_wrong]; try dsimp only)
        | exact Or.inl rfl
        | exact Or.inr rfl
        | decide
        | (first | lia | exact ⟨_, rfl, hq⟩)
    next => exact hP.elim
theorem m_cant (l : Launch) : RMet l 2 13 P_cant Q_cant := by
  refine RMet.by Bcant [(12, P_wrong, Q_wrong)] rocant okBcant (ctc (m_wrong l) (by decide) ct0) ?_ b_cant
  · intro As σ hP
    unfold P_cant at hP
    split at hP
    next => exact Nat.le_of_ble_eq_true rfl
    next => exact hP.elim
set_option maxRecDepth 100000 in
theorem e_cant (l : Launch) : RMetE l 2 13 P_cant Q_cant := by
  refine RMetE.by Bcant [(12, P_wrong, Q_wrong)] rfl rfl rocant okBcant (ctEc (e_wrong l) (by decide) ctE0) ?_ b_cant
  · intro As σ hP
    unfold P_cant at hP
    split at hP
    next => exact Nat.le_of_ble_eq_true rfl
    next => exact hP.elim
def P_take : RP := fun As σ => match As with
  | [] => 0 ≤ (gI σ 14) ∧ (gI σ 14) ≤ 500
  | _ => False
def Q_take : RQ := fun As σ w τ => match As with
  | [] => ∃ r : Int32, w = some (.int r) ∧ ((r = 1 ∧ (gI σ 14) < 500 ∧ τ = sI σ 14 ((gI σ 14) + 1)) ∨ (r = 0 ∧ ∃ a b : Int32, τ = sI (sI σ 15 a) 16 b))
  | _ => False
set_option maxRecDepth 100000 in
set_option maxHeartbeats 4000000 in
theorem b_take : Bod Btake [(12, P_wrong, Q_wrong)] P_take Q_take := by
  · intro As σ hP G hB hW
    unfold P_take at hP
    split at hP
    next => 
      unfold Q_take at hB
      dsimp only at hB
      repeat' first
        | apply And.intro
        | (rintro w τ ⟨r, rfl, hq, rfl⟩; dsimp only [Option.toList, List.cons_append, List.nil_append])
        | (rintro w τ ⟨rfl, rfl⟩; dsimp only [Option.toList, List.cons_append, List.nil_append])
        | (rintro w τ ⟨r, rfl, hq⟩; dsimp only [Option.toList, List.cons_append, List.nil_append])
        | (rintro w τ ⟨rfl, hq⟩; dsimp only [Option.toList, List.nil_append])
        | intro _
        | rfl
        | trivial
        | (apply hB; dsimp only [rgo, rfd, Btake, Nat.beq, rwp, rst, lv_args, rlk, rs1, rs2, rdl, rky, rct, rcs, rcd, rno, rsw, Value.category, List.filter, List.take, List.drop, List.reverse, List.reverseAux, List.cons_append, List.nil_append, Option.toList, Int.toNat, Int.reduceToNat, if_pos, if_neg, reduceIte, ↓reduceIte, Nat.reduceAdd, Nat.reduceEqDiff, Nat.reduceBEq, beq_self_eq_true, Bool.not_true, Bool.not_false, Bool.and_true, Bool.and_false, Bool.true_and, Bool.false_and, gI_sI, gI_sL, gI_sA, gI_sM, gL_sI, gL_sL, gL_sA, gL_sM, aI_sI, aI_sL, aI_sA, aI_sM, aL_sI, aL_sL, aL_sA, aL_sM, Btake_0, Btake_10, Btake_20, oi_1, oi_3, oi_500, P_wrong]; try dsimp only)
        | exact Or.inl rfl
        | exact Or.inr rfl
        | decide
        | (first | lia | exact ⟨_, rfl, Or.inl ⟨rfl, by lia, rfl⟩⟩ | exact ⟨_, rfl, Or.inr hq⟩)
    next => exact hP.elim
theorem m_take (l : Launch) : RMet l 2 17 P_take Q_take := by
  refine RMet.by Btake [(12, P_wrong, Q_wrong)] rotake okBtake (ctc (m_wrong l) (by decide) ct0) ?_ b_take
  · intro As σ hP
    unfold P_take at hP
    split at hP
    next => exact Nat.le_of_ble_eq_true rfl
    next => exact hP.elim
set_option maxRecDepth 100000 in
theorem e_take (l : Launch) : RMetE l 2 17 P_take Q_take := by
  refine RMetE.by Btake [(12, P_wrong, Q_wrong)] rfl rfl rotake okBtake (ctEc (e_wrong l) (by decide) ctE0) ?_ b_take
  · intro As σ hP
    unfold P_take at hP
    split at hP
    next => exact Nat.le_of_ble_eq_true rfl
    next => exact hP.elim
