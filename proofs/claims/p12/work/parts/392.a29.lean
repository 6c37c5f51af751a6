/-! the reference's answers: what type, constant, ends, assigned, means tell -/
def XbR (σ : RS) (i k r : Int32) (n : Int) : Prop := (r = -2 ∧ ∀ x : Nat, (x : Int) < n → ¬ (aI σ 75 x = i ∧ aI σ 76 x = k)) ∨ (0 ≤ r.toInt ∧ r.toInt < n ∧ (aI σ 75 r.toNatClampNeg = i ∧ aI σ 76 r.toNatClampNeg = k) ∧ ∀ x : Nat, r.toInt < (x : Int) → (x : Int) < n → ¬ (aI σ 75 x = i ∧ aI σ 76 x = k))
theorem XbR.n {σ : RS} {i k r : Int32} {n : Nat} (h : XbR σ i k r (n : Int)) (q : ¬ (aI σ 75 n = i ∧ aI σ 76 n = k)) : XbR σ i k r ((n + 1 : Nat) : Int) := by
  rcases h with ⟨h1, h2⟩ | ⟨h1, h2, h3, h4⟩
  · exact Or.inl ⟨h1, fun x hx => by by_cases e : x = n; (rw [e]; exact q); exact h2 x (by omega)⟩
  · exact Or.inr ⟨h1, by omega, h3, fun x hx hy => by by_cases e : x = n; (rw [e]; exact q); exact h4 x hx (by omega)⟩
def tkcR (σ : RS) : Int32 := if 0 < gI σ 2 then gI σ 2 - 1 else 0
def tokR (σ : RS) (i : Int32) : Prop := 0 ≤ i ∧ i < tkcR σ
def Pv_expAt : UP1 := fun A1 σ => match A1 with
  | [.int i, .int k] => True
  | _ => False
def Qv_expAt : UQ1 := fun A1 σ w τ => match A1 with
  | [.int i, .int k] => σ = τ ∧ ∃ r : Int32, w = some (.int r) ∧ XaR σ i k r
  | _ => False
def Qw_expAt : UQ1 := fun A1 σ w τ => Pv_expAt A1 σ → Qv_expAt A1 σ w τ
set_option maxRecDepth 100000 in
set_option maxHeartbeats 4000000 in
theorem v_expAt : UMet 134 (Pv_expAt) (Qv_expAt) := by
  refine UMet.by BexpAt [] rfl uc0 ?_
  intro A1 σ hP K hB hW
  unfold Pv_expAt at hP
  split at hP
  next i k =>
    have loop : ∀ (N : Nat) (r j : Int32) (n : Nat), j.toInt = (n : Int) → (n : Int) ≤ max 0 (gI σ 74).toInt → XbR σ i k r (n : Int) → K N 6 [(0, .ref 1000), (1, .int i), (2, .int k), (3, .int r), (4, .int j)] [] σ := by
      intro N
      induction N using Nat.strongRecOn with
      | ind N loop =>
        intro r j n hj hn hI
        refine hB _ _ _ _ _ (fun m1 hm1 => ?_)
        dsimp only [ugo, uwp, ust, uct, rfd, BexpAt, BexpAt_6, Nat.beq, lv_args, rlk, rs1, rs2, rdl, rky, rcd, rno, rsw, Value.category, List.filter, List.take, List.drop, List.reverse, List.reverseAux, List.cons_append, List.nil_append, Option.toList, Int.toNat, Int.reduceToNat, if_pos, if_neg, reduceIte, ↓reduceIte, Nat.reduceAdd, Nat.reduceEqDiff, Nat.reduceBEq, beq_self_eq_true, Bool.not_true, Bool.not_false, Bool.and_true, Bool.and_false, Bool.true_and, Bool.false_and, gI_sI, gI_sL, gI_sA, gI_sM, gL_sI, gL_sL, gL_sA, gL_sM, aI_sI, aI_sL, aI_sA, aI_sM, aL_sI, aL_sL, aL_sA, aL_sM]; try dsimp only
        refine ⟨fun h2 => ?_, fun h2 => ?_⟩
        · have c2 : (gI σ 74).toInt ≤ (n : Int) := (cI hj (rfl : (gI σ 74).toInt = (gI σ 74).toInt)).2.2.2.2.mp h2
          refine hB _ _ _ _ _ (fun m3 hm3 => ?_)
          dsimp only [ugo, uwp, ust, uct, rfd, BexpAt, BexpAt_46, Nat.beq, lv_args, rlk, rs1, rs2, rdl, rky, rcd, rno, rsw, Value.category, List.filter, List.take, List.drop, List.reverse, List.reverseAux, List.cons_append, List.nil_append, Option.toList, Int.toNat, Int.reduceToNat, if_pos, if_neg, reduceIte, ↓reduceIte, Nat.reduceAdd, Nat.reduceEqDiff, Nat.reduceBEq, beq_self_eq_true, Bool.not_true, Bool.not_false, Bool.and_true, Bool.and_false, Bool.true_and, Bool.false_and, gI_sI, gI_sL, gI_sA, gI_sM, gL_sI, gL_sL, gL_sA, gL_sM, aI_sI, aI_sL, aI_sA, aI_sM, aL_sI, aL_sL, aL_sA, aL_sM]; try dsimp only
          unfold Qv_expAt
          try dsimp only
          refine ⟨rfl, r, rfl, ?_⟩
          rcases hI with ⟨h1, h2⟩ | ⟨h1, h2, h3, h4⟩
          · exact Or.inl ⟨h1, fun x hx => h2 x (by omega)⟩
          · exact Or.inr ⟨h1, by omega, h3, fun x hx hy => h4 x hx (by omega)⟩
        · have c2 : (n : Int) < (gI σ 74).toInt := (cI hj (rfl : (gI σ 74).toInt = (gI σ 74).toInt)).2.1.mp (by first | exact h2 | exact Int32.not_lt.mp h2 | exact Int32.not_le.mp h2)
          refine hB _ _ _ _ _ (fun m4 hm4 => ?_)
          dsimp only [ugo, uwp, ust, uct, rfd, BexpAt, BexpAt_15, Nat.beq, lv_args, rlk, rs1, rs2, rdl, rky, rcd, rno, rsw, Value.category, List.filter, List.take, List.drop, List.reverse, List.reverseAux, List.cons_append, List.nil_append, Option.toList, Int.toNat, Int.reduceToNat, if_pos, if_neg, reduceIte, ↓reduceIte, Nat.reduceAdd, Nat.reduceEqDiff, Nat.reduceBEq, beq_self_eq_true, Bool.not_true, Bool.not_false, Bool.and_true, Bool.and_false, Bool.true_and, Bool.false_and, gI_sI, gI_sL, gI_sA, gI_sM, gL_sI, gL_sL, gL_sA, gL_sM, aI_sI, aI_sL, aI_sA, aI_sM, aL_sI, aL_sL, aL_sA, aL_sM]; try dsimp only
          intro p5
          refine ⟨fun h6 => ?_, fun h6 => ?_⟩
          · refine hB _ _ _ _ _ (fun m7 hm7 => ?_)
            dsimp only [ugo, uwp, ust, uct, rfd, BexpAt, BexpAt_40, Nat.beq, lv_args, rlk, rs1, rs2, rdl, rky, rcd, rno, rsw, Value.category, List.filter, List.take, List.drop, List.reverse, List.reverseAux, List.cons_append, List.nil_append, Option.toList, Int.toNat, Int.reduceToNat, if_pos, if_neg, reduceIte, ↓reduceIte, Nat.reduceAdd, Nat.reduceEqDiff, Nat.reduceBEq, beq_self_eq_true, Bool.not_true, Bool.not_false, Bool.and_true, Bool.and_false, Bool.true_and, Bool.false_and, gI_sI, gI_sL, gI_sA, gI_sM, gL_sI, gL_sL, gL_sA, gL_sM, aI_sI, aI_sL, aI_sA, aI_sM, aL_sI, aL_sL, aL_sA, aL_sM, oi_1]; try dsimp only
            have ji := i32_1 (v := j) hj (by have := (gI σ 74).toInt_lt; omega) (by omega)
            have jk : j.toNatClampNeg = n := nT_x hj
            exact hW _ 6 [(0, .ref 1000), (1, .int i), (2, .int k), (3, .int r), (4, .int (j + 1))] _ _ _ (by simp [rdl, rky, Value.category]) (loop _ (by omega) r (j + 1) (n + 1) (by omega) (by omega) (XbR.n hI (by rw [← jk]; intro q; obtain ⟨q1, q2⟩ := q; contradiction)))
          · refine hB _ _ _ _ _ (fun m8 hm8 => ?_)
            dsimp only [ugo, uwp, ust, uct, rfd, BexpAt, BexpAt_26, Nat.beq, lv_args, rlk, rs1, rs2, rdl, rky, rcd, rno, rsw, Value.category, List.filter, List.take, List.drop, List.reverse, List.reverseAux, List.cons_append, List.nil_append, Option.toList, Int.toNat, Int.reduceToNat, if_pos, if_neg, reduceIte, ↓reduceIte, Nat.reduceAdd, Nat.reduceEqDiff, Nat.reduceBEq, beq_self_eq_true, Bool.not_true, Bool.not_false, Bool.and_true, Bool.and_false, Bool.true_and, Bool.false_and, gI_sI, gI_sL, gI_sA, gI_sM, gL_sI, gL_sL, gL_sA, gL_sM, aI_sI, aI_sL, aI_sA, aI_sM, aL_sI, aL_sL, aL_sA, aL_sM]; try dsimp only
            intro p9
            refine ⟨fun h10 => ?_, fun h10 => ?_⟩
            · refine hB _ _ _ _ _ (fun m11 hm11 => ?_)
              dsimp only [ugo, uwp, ust, uct, rfd, BexpAt, BexpAt_40, Nat.beq, lv_args, rlk, rs1, rs2, rdl, rky, rcd, rno, rsw, Value.category, List.filter, List.take, List.drop, List.reverse, List.reverseAux, List.cons_append, List.nil_append, Option.toList, Int.toNat, Int.reduceToNat, if_pos, if_neg, reduceIte, ↓reduceIte, Nat.reduceAdd, Nat.reduceEqDiff, Nat.reduceBEq, beq_self_eq_true, Bool.not_true, Bool.not_false, Bool.and_true, Bool.and_false, Bool.true_and, Bool.false_and, gI_sI, gI_sL, gI_sA, gI_sM, gL_sI, gL_sL, gL_sA, gL_sM, aI_sI, aI_sL, aI_sA, aI_sM, aL_sI, aL_sL, aL_sA, aL_sM, oi_1]; try dsimp only
              have ji := i32_1 (v := j) hj (by have := (gI σ 74).toInt_lt; omega) (by omega)
              have jk : j.toNatClampNeg = n := nT_x hj
              exact hW _ 6 [(0, .ref 1000), (1, .int i), (2, .int k), (3, .int r), (4, .int (j + 1))] _ _ _ (by simp [rdl, rky, Value.category]) (loop _ (by omega) r (j + 1) (n + 1) (by omega) (by omega) (XbR.n hI (by rw [← jk]; intro q; obtain ⟨q1, q2⟩ := q; contradiction)))
            · refine hB _ _ _ _ _ (fun m12 hm12 => ?_)
              dsimp only [ugo, uwp, ust, uct, rfd, BexpAt, BexpAt_37, Nat.beq, lv_args, rlk, rs1, rs2, rdl, rky, rcd, rno, rsw, Value.category, List.filter, List.take, List.drop, List.reverse, List.reverseAux, List.cons_append, List.nil_append, Option.toList, Int.toNat, Int.reduceToNat, if_pos, if_neg, reduceIte, ↓reduceIte, Nat.reduceAdd, Nat.reduceEqDiff, Nat.reduceBEq, beq_self_eq_true, Bool.not_true, Bool.not_false, Bool.and_true, Bool.and_false, Bool.true_and, Bool.false_and, gI_sI, gI_sL, gI_sA, gI_sM, gL_sI, gL_sL, gL_sA, gL_sM, aI_sI, aI_sL, aI_sA, aI_sM, aL_sI, aL_sL, aL_sA, aL_sM]; try dsimp only
              refine hB _ _ _ _ _ (fun m13 hm13 => ?_)
              dsimp only [ugo, uwp, ust, uct, rfd, BexpAt, BexpAt_40, Nat.beq, lv_args, rlk, rs1, rs2, rdl, rky, rcd, rno, rsw, Value.category, List.filter, List.take, List.drop, List.reverse, List.reverseAux, List.cons_append, List.nil_append, Option.toList, Int.toNat, Int.reduceToNat, if_pos, if_neg, reduceIte, ↓reduceIte, Nat.reduceAdd, Nat.reduceEqDiff, Nat.reduceBEq, beq_self_eq_true, Bool.not_true, Bool.not_false, Bool.and_true, Bool.and_false, Bool.true_and, Bool.false_and, gI_sI, gI_sL, gI_sA, gI_sM, gL_sI, gL_sL, gL_sA, gL_sM, aI_sI, aI_sL, aI_sA, aI_sM, aL_sI, aL_sL, aL_sA, aL_sM, oi_1]; try dsimp only
              have ji := i32_1 (v := j) hj (by have := (gI σ 74).toInt_lt; omega) (by omega)
              have jk : j.toNatClampNeg = n := nT_x hj
              exact hW _ 6 [(0, .ref 1000), (1, .int i), (2, .int k), (3, .int j), (4, .int (j + 1))] _ _ _ (by simp [rdl, rky, Value.category]) (loop _ (by omega) j (j + 1) (n + 1) (by omega) (by omega) (Or.inr ⟨by omega, by omega, ⟨by assumption, by assumption⟩, fun x h1 h2 => by omega⟩))
    intro n0
    refine hB _ _ _ _ _ (fun m1 hm1 => ?_)
    dsimp only [ugo, uwp, ust, uct, rfd, BexpAt, BexpAt_0, Nat.beq, lv_args, rlk, rs1, rs2, rdl, rky, rcd, rno, rsw, Value.category, List.filter, List.take, List.drop, List.reverse, List.reverseAux, List.cons_append, List.nil_append, Option.toList, Int.toNat, Int.reduceToNat, if_pos, if_neg, reduceIte, ↓reduceIte, Nat.reduceAdd, Nat.reduceEqDiff, Nat.reduceBEq, beq_self_eq_true, Bool.not_true, Bool.not_false, Bool.and_true, Bool.and_false, Bool.true_and, Bool.false_and, gI_sI, gI_sL, gI_sA, gI_sM, gL_sI, gL_sL, gL_sA, gL_sM, aI_sI, aI_sL, aI_sA, aI_sM, aL_sI, aL_sL, aL_sA, aL_sM, oi_0, oi_m2]; try dsimp only
    exact hW _ 6 [(0, .ref 1000), (1, .int i), (2, .int k), (3, .int (-2)), (4, .int 0)] _ _ _ (by simp [rdl, rky, Value.category]) (loop _ (-2) 0 0 rfl (by omega) (Or.inl ⟨rfl, fun x hx => by omega⟩))
  next => exact hP.elim
theorem w_expAt : UMet 134 (fun _ _ => True) Qw_expAt := fun A1 σ _ w τ h hP => v_expAt A1 σ hP w τ h
def Pv_tokens : UP1 := fun A1 σ => match A1 with
  | [] => True
  | _ => False
def Qv_tokens : UQ1 := fun A1 σ w τ => match A1 with
  | [] => σ = τ ∧ ∃ r : Int32, w = some (.int r) ∧ r = tkcR σ
  | _ => False
def Qw_tokens : UQ1 := fun A1 σ w τ => Pv_tokens A1 σ → Qv_tokens A1 σ w τ
set_option maxRecDepth 100000 in
set_option maxHeartbeats 4000000 in
theorem v_tokens : UMet 127 (Pv_tokens) (Qv_tokens) := by
  refine UMet.by Btokens [] rfl uc0 ?_
  intro A1 σ hP K hB hW
  unfold Pv_tokens at hP
  split at hP
  next =>
    intro n0
    refine hB _ _ _ _ _ (fun m1 hm1 => ?_)
    dsimp only [ugo, uwp, ust, uct, rfd, Btokens, Btokens_0, Nat.beq, lv_args, rlk, rs1, rs2, rdl, rky, rcd, rno, rsw, Value.category, List.filter, List.take, List.drop, List.reverse, List.reverseAux, List.cons_append, List.nil_append, Option.toList, Int.toNat, Int.reduceToNat, if_pos, if_neg, reduceIte, ↓reduceIte, Nat.reduceAdd, Nat.reduceEqDiff, Nat.reduceBEq, beq_self_eq_true, Bool.not_true, Bool.not_false, Bool.and_true, Bool.and_false, Bool.true_and, Bool.false_and, gI_sI, gI_sL, gI_sA, gI_sM, gL_sI, gL_sL, gL_sA, gL_sM, aI_sI, aI_sL, aI_sA, aI_sM, aL_sI, aL_sL, aL_sA, aL_sM]; try dsimp only
    refine ⟨fun h2 => ?_, fun h2 => ?_⟩
    · refine hB _ _ _ _ _ (fun m3 hm3 => ?_)
      dsimp only [ugo, uwp, ust, uct, rfd, Btokens, Btokens_16, Nat.beq, lv_args, rlk, rs1, rs2, rdl, rky, rcd, rno, rsw, Value.category, List.filter, List.take, List.drop, List.reverse, List.reverseAux, List.cons_append, List.nil_append, Option.toList, Int.toNat, Int.reduceToNat, if_pos, if_neg, reduceIte, ↓reduceIte, Nat.reduceAdd, Nat.reduceEqDiff, Nat.reduceBEq, beq_self_eq_true, Bool.not_true, Bool.not_false, Bool.and_true, Bool.and_false, Bool.true_and, Bool.false_and, gI_sI, gI_sL, gI_sA, gI_sM, gL_sI, gL_sL, gL_sA, gL_sM, aI_sI, aI_sL, aI_sA, aI_sM, aL_sI, aL_sL, aL_sA, aL_sM, oi_0]; try dsimp only
      refine hB _ _ _ _ _ (fun m4 hm4 => ?_)
      dsimp only [ugo, uwp, ust, uct, rfd, Btokens, Btokens_17, Nat.beq, lv_args, rlk, rs1, rs2, rdl, rky, rcd, rno, rsw, Value.category, List.filter, List.take, List.drop, List.reverse, List.reverseAux, List.cons_append, List.nil_append, Option.toList, Int.toNat, Int.reduceToNat, if_pos, if_neg, reduceIte, ↓reduceIte, Nat.reduceAdd, Nat.reduceEqDiff, Nat.reduceBEq, beq_self_eq_true, Bool.not_true, Bool.not_false, Bool.and_true, Bool.and_false, Bool.true_and, Bool.false_and, gI_sI, gI_sL, gI_sA, gI_sM, gL_sI, gL_sL, gL_sA, gL_sM, aI_sI, aI_sL, aI_sA, aI_sM, aL_sI, aL_sL, aL_sA, aL_sM]; try dsimp only
      unfold Qv_tokens
      try dsimp only
      refine ⟨rfl, _, rfl, ?_⟩
      unfold tkcR
      first | rw [if_pos (by first | assumption | exact Int32.not_le.mp (by assumption))] | rw [if_neg (by first | assumption | exact Int32.not_lt.mpr (by assumption))]
    · refine hB _ _ _ _ _ (fun m5 hm5 => ?_)
      dsimp only [ugo, uwp, ust, uct, rfd, Btokens, Btokens_7, Nat.beq, lv_args, rlk, rs1, rs2, rdl, rky, rcd, rno, rsw, Value.category, List.filter, List.take, List.drop, List.reverse, List.reverseAux, List.cons_append, List.nil_append, Option.toList, Int.toNat, Int.reduceToNat, if_pos, if_neg, reduceIte, ↓reduceIte, Nat.reduceAdd, Nat.reduceEqDiff, Nat.reduceBEq, beq_self_eq_true, Bool.not_true, Bool.not_false, Bool.and_true, Bool.and_false, Bool.true_and, Bool.false_and, gI_sI, gI_sL, gI_sA, gI_sM, gL_sI, gL_sL, gL_sA, gL_sM, aI_sI, aI_sL, aI_sA, aI_sM, aL_sI, aL_sL, aL_sA, aL_sM, oi_1]; try dsimp only
      refine hB _ _ _ _ _ (fun m6 hm6 => ?_)
      dsimp only [ugo, uwp, ust, uct, rfd, Btokens, Btokens_17, Nat.beq, lv_args, rlk, rs1, rs2, rdl, rky, rcd, rno, rsw, Value.category, List.filter, List.take, List.drop, List.reverse, List.reverseAux, List.cons_append, List.nil_append, Option.toList, Int.toNat, Int.reduceToNat, if_pos, if_neg, reduceIte, ↓reduceIte, Nat.reduceAdd, Nat.reduceEqDiff, Nat.reduceBEq, beq_self_eq_true, Bool.not_true, Bool.not_false, Bool.and_true, Bool.and_false, Bool.true_and, Bool.false_and, gI_sI, gI_sL, gI_sA, gI_sM, gL_sI, gL_sL, gL_sA, gL_sM, aI_sI, aI_sL, aI_sA, aI_sM, aL_sI, aL_sL, aL_sA, aL_sM]; try dsimp only
      unfold Qv_tokens
      try dsimp only
      refine ⟨rfl, _, rfl, ?_⟩
      unfold tkcR
      first | rw [if_pos (by first | assumption | exact Int32.not_le.mp (by assumption))] | rw [if_neg (by first | assumption | exact Int32.not_lt.mpr (by assumption))]
  next => exact hP.elim
theorem w_tokens : UMet 127 (fun _ _ => True) Qw_tokens := fun A1 σ _ w τ h hP => v_tokens A1 σ hP w τ h
def Pv_isToken : UP1 := fun A1 σ => match A1 with
  | [.int i] => True
  | _ => False
def Qv_isToken : UQ1 := fun A1 σ w τ => match A1 with
  | [.int i] => σ = τ ∧ ∃ b : Int32, w = some (.int b) ∧ (¬ b = 0 ↔ tokR σ i)
  | _ => False
def Qw_isToken : UQ1 := fun A1 σ w τ => Pv_isToken A1 σ → Qv_isToken A1 σ w τ
set_option maxRecDepth 100000 in
set_option maxHeartbeats 4000000 in
theorem v_isToken : UMet 129 (Pv_isToken) (Qv_isToken) := by
  refine UMet.by BisToken [(127, (fun _ _ => True), Qw_tokens)] rfl (ucc w_tokens uc0) ?_
  intro A1 σ hP K hB hW
  unfold Pv_isToken at hP
  split at hP
  next i =>
    intro n0
    refine hB _ _ _ _ _ (fun m1 hm1 => ?_)
    dsimp only [ugo, uwp, ust, uct, rfd, BisToken, BisToken_0, Nat.beq, lv_args, rlk, rs1, rs2, rdl, rky, rcd, rno, rsw, Value.category, List.filter, List.take, List.drop, List.reverse, List.reverseAux, List.cons_append, List.nil_append, Option.toList, Int.toNat, Int.reduceToNat, if_pos, if_neg, reduceIte, ↓reduceIte, Nat.reduceAdd, Nat.reduceEqDiff, Nat.reduceBEq, beq_self_eq_true, Bool.not_true, Bool.not_false, Bool.and_true, Bool.and_false, Bool.true_and, Bool.false_and, gI_sI, gI_sL, gI_sA, gI_sM, gL_sI, gL_sL, gL_sA, gL_sM, aI_sI, aI_sL, aI_sA, aI_sM, aL_sI, aL_sL, aL_sA, aL_sM]; try dsimp only
    refine ⟨fun h2 => ?_, fun h2 => ?_⟩
    · refine hB _ _ _ _ _ (fun m3 hm3 => ?_)
      dsimp only [ugo, uwp, ust, uct, rfd, BisToken, BisToken_16, Nat.beq, lv_args, rlk, rs1, rs2, rdl, rky, rcd, rno, rsw, Value.category, List.filter, List.take, List.drop, List.reverse, List.reverseAux, List.cons_append, List.nil_append, Option.toList, Int.toNat, Int.reduceToNat, if_pos, if_neg, reduceIte, ↓reduceIte, Nat.reduceAdd, Nat.reduceEqDiff, Nat.reduceBEq, beq_self_eq_true, Bool.not_true, Bool.not_false, Bool.and_true, Bool.and_false, Bool.true_and, Bool.false_and, gI_sI, gI_sL, gI_sA, gI_sM, gL_sI, gL_sL, gL_sA, gL_sM, aI_sI, aI_sL, aI_sA, aI_sM, aL_sI, aL_sL, aL_sA, aL_sM, oi_0]; try dsimp only
      refine hB _ _ _ _ _ (fun m4 hm4 => ?_)
      dsimp only [ugo, uwp, ust, uct, rfd, BisToken, BisToken_17, Nat.beq, lv_args, rlk, rs1, rs2, rdl, rky, rcd, rno, rsw, Value.category, List.filter, List.take, List.drop, List.reverse, List.reverseAux, List.cons_append, List.nil_append, Option.toList, Int.toNat, Int.reduceToNat, if_pos, if_neg, reduceIte, ↓reduceIte, Nat.reduceAdd, Nat.reduceEqDiff, Nat.reduceBEq, beq_self_eq_true, Bool.not_true, Bool.not_false, Bool.and_true, Bool.and_false, Bool.true_and, Bool.false_and, gI_sI, gI_sL, gI_sA, gI_sM, gL_sI, gL_sL, gL_sA, gL_sM, aI_sI, aI_sL, aI_sA, aI_sM, aL_sI, aL_sL, aL_sA, aL_sM]; try dsimp only
      unfold Qv_isToken
      try dsimp only
      exact ⟨rfl, 0, rfl, b00 (fun q => by obtain ⟨q1, q2⟩ := q; first | exact absurd q1 (Int32.not_le.mpr (by assumption)) | exact absurd q2 (Int32.not_lt.mpr (by assumption)))⟩
    · refine hB _ _ _ _ _ (fun m5 hm5 => ?_)
      dsimp only [ugo, uwp, ust, uct, rfd, BisToken, BisToken_4, Nat.beq, lv_args, rlk, rs1, rs2, rdl, rky, rcd, rno, rsw, Value.category, List.filter, List.take, List.drop, List.reverse, List.reverseAux, List.cons_append, List.nil_append, Option.toList, Int.toNat, Int.reduceToNat, if_pos, if_neg, reduceIte, ↓reduceIte, Nat.reduceAdd, Nat.reduceEqDiff, Nat.reduceBEq, beq_self_eq_true, Bool.not_true, Bool.not_false, Bool.and_true, Bool.and_false, Bool.true_and, Bool.false_and, gI_sI, gI_sL, gI_sA, gI_sM, gL_sI, gL_sL, gL_sA, gL_sM, aI_sI, aI_sL, aI_sA, aI_sM, aL_sI, aL_sL, aL_sA, aL_sM]; try dsimp only
      refine ⟨trivial, fun w6 τ6 hq6 => ?_⟩
      obtain ⟨rfl, _, rfl, rfl⟩ := hq6 trivial
      dsimp only [Option.toList, List.cons_append, List.nil_append, Nat.beq, gI_sI, gI_sL, gI_sA, gI_sM, gL_sI, gL_sL, gL_sA, gL_sM, aI_sI, aI_sL, aI_sA, aI_sM, aL_sI, aL_sL, aL_sA, aL_sM]
      refine ⟨fun h7 => ?_, fun h7 => ?_⟩
      · refine hB _ _ _ _ _ (fun m8 hm8 => ?_)
        dsimp only [ugo, uwp, ust, uct, rfd, BisToken, BisToken_16, Nat.beq, lv_args, rlk, rs1, rs2, rdl, rky, rcd, rno, rsw, Value.category, List.filter, List.take, List.drop, List.reverse, List.reverseAux, List.cons_append, List.nil_append, Option.toList, Int.toNat, Int.reduceToNat, if_pos, if_neg, reduceIte, ↓reduceIte, Nat.reduceAdd, Nat.reduceEqDiff, Nat.reduceBEq, beq_self_eq_true, Bool.not_true, Bool.not_false, Bool.and_true, Bool.and_false, Bool.true_and, Bool.false_and, gI_sI, gI_sL, gI_sA, gI_sM, gL_sI, gL_sL, gL_sA, gL_sM, aI_sI, aI_sL, aI_sA, aI_sM, aL_sI, aL_sL, aL_sA, aL_sM, oi_0]; try dsimp only
        refine hB _ _ _ _ _ (fun m9 hm9 => ?_)
        dsimp only [ugo, uwp, ust, uct, rfd, BisToken, BisToken_17, Nat.beq, lv_args, rlk, rs1, rs2, rdl, rky, rcd, rno, rsw, Value.category, List.filter, List.take, List.drop, List.reverse, List.reverseAux, List.cons_append, List.nil_append, Option.toList, Int.toNat, Int.reduceToNat, if_pos, if_neg, reduceIte, ↓reduceIte, Nat.reduceAdd, Nat.reduceEqDiff, Nat.reduceBEq, beq_self_eq_true, Bool.not_true, Bool.not_false, Bool.and_true, Bool.and_false, Bool.true_and, Bool.false_and, gI_sI, gI_sL, gI_sA, gI_sM, gL_sI, gL_sL, gL_sA, gL_sM, aI_sI, aI_sL, aI_sA, aI_sM, aL_sI, aL_sL, aL_sA, aL_sM]; try dsimp only
        unfold Qv_isToken
        try dsimp only
        exact ⟨rfl, 0, rfl, b00 (fun q => by obtain ⟨q1, q2⟩ := q; first | exact absurd q1 (Int32.not_le.mpr (by assumption)) | exact absurd q2 (Int32.not_lt.mpr (by assumption)))⟩
      · refine hB _ _ _ _ _ (fun m10 hm10 => ?_)
        dsimp only [ugo, uwp, ust, uct, rfd, BisToken, BisToken_12, Nat.beq, lv_args, rlk, rs1, rs2, rdl, rky, rcd, rno, rsw, Value.category, List.filter, List.take, List.drop, List.reverse, List.reverseAux, List.cons_append, List.nil_append, Option.toList, Int.toNat, Int.reduceToNat, if_pos, if_neg, reduceIte, ↓reduceIte, Nat.reduceAdd, Nat.reduceEqDiff, Nat.reduceBEq, beq_self_eq_true, Bool.not_true, Bool.not_false, Bool.and_true, Bool.and_false, Bool.true_and, Bool.false_and, gI_sI, gI_sL, gI_sA, gI_sM, gL_sI, gL_sL, gL_sA, gL_sM, aI_sI, aI_sL, aI_sA, aI_sM, aL_sI, aL_sL, aL_sA, aL_sM, oi_1]; try dsimp only
        refine hB _ _ _ _ _ (fun m11 hm11 => ?_)
        dsimp only [ugo, uwp, ust, uct, rfd, BisToken, BisToken_17, Nat.beq, lv_args, rlk, rs1, rs2, rdl, rky, rcd, rno, rsw, Value.category, List.filter, List.take, List.drop, List.reverse, List.reverseAux, List.cons_append, List.nil_append, Option.toList, Int.toNat, Int.reduceToNat, if_pos, if_neg, reduceIte, ↓reduceIte, Nat.reduceAdd, Nat.reduceEqDiff, Nat.reduceBEq, beq_self_eq_true, Bool.not_true, Bool.not_false, Bool.and_true, Bool.and_false, Bool.true_and, Bool.false_and, gI_sI, gI_sL, gI_sA, gI_sM, gL_sI, gL_sL, gL_sA, gL_sM, aI_sI, aI_sL, aI_sA, aI_sM, aL_sI, aL_sL, aL_sA, aL_sM]; try dsimp only
        unfold Qv_isToken
        try dsimp only
        exact ⟨rfl, 1, rfl, b01 ⟨by first | assumption | exact Int32.not_lt.mp (by assumption), by first | assumption | exact Int32.not_le.mp (by assumption)⟩⟩
  next => exact hP.elim
theorem w_isToken : UMet 129 (fun _ _ => True) Qw_isToken := fun A1 σ _ w τ h hP => v_isToken A1 σ hP w τ h
def Pv_type : UP1 := fun A1 σ => match A1 with
  | [.int i, .int k] => True
  | _ => False
def Qv_type : UQ1 := fun A1 σ w τ => match A1 with
  | [.int i, .int k] => JdR σ τ ∧ ∃ r : Int32, w = some (.int r) ∧ ((¬ gI τ 66 = 0 ∧ r = -2) ∨ (gI τ 66 = 0 ∧ ∃ x, XaR τ i k x ∧ ((x < 0 ∧ r = -1) ∨ (¬ x < 0 ∧ r = aI τ 77 x.toNatClampNeg))))
  | _ => False
def Qw_type : UQ1 := fun A1 σ w τ => Pv_type A1 σ → Qv_type A1 σ w τ
set_option maxRecDepth 100000 in
set_option maxHeartbeats 4000000 in
theorem v_type : UMet 135 (Pv_type) (Qv_type) := by
  refine UMet.by Btype [(134, (fun _ _ => True), Qw_expAt), (125, (fun _ _ => True), Qw_isGood)] rfl (ucc w_expAt (ucc w_isGood uc0)) ?_
  intro A1 σ hP K hB hW
  unfold Pv_type at hP
  split at hP
  next i k =>
    intro n0
    refine hB _ _ _ _ _ (fun m1 hm1 => ?_)
    dsimp only [ugo, uwp, ust, uct, rfd, Btype, Btype_0, Nat.beq, lv_args, rlk, rs1, rs2, rdl, rky, rcd, rno, rsw, Value.category, List.filter, List.take, List.drop, List.reverse, List.reverseAux, List.cons_append, List.nil_append, Option.toList, Int.toNat, Int.reduceToNat, if_pos, if_neg, reduceIte, ↓reduceIte, Nat.reduceAdd, Nat.reduceEqDiff, Nat.reduceBEq, beq_self_eq_true, Bool.not_true, Bool.not_false, Bool.and_true, Bool.and_false, Bool.true_and, Bool.false_and, gI_sI, gI_sL, gI_sA, gI_sM, gL_sI, gL_sL, gL_sA, gL_sM, aI_sI, aI_sL, aI_sA, aI_sM, aL_sI, aL_sL, aL_sA, aL_sM]; try dsimp only
    refine ⟨trivial, fun w2 τ2 hq2 => ?_⟩
    obtain ⟨hjd2, b2, rfl, hb2⟩ := hq2 trivial
    dsimp only [Option.toList, List.cons_append, List.nil_append, Nat.beq, gI_sI, gI_sL, gI_sA, gI_sM, gL_sI, gL_sL, gL_sA, gL_sM, aI_sI, aI_sL, aI_sA, aI_sM, aL_sI, aL_sL, aL_sA, aL_sM]
    refine ⟨fun h3 => ?_, fun h3 => ?_⟩
    · have c3 : gI τ2 66 = 0 := (hb2).mp h3
      refine hB _ _ _ _ _ (fun m4 hm4 => ?_)
      dsimp only [ugo, uwp, ust, uct, rfd, Btype, Btype_10, Nat.beq, lv_args, rlk, rs1, rs2, rdl, rky, rcd, rno, rsw, Value.category, List.filter, List.take, List.drop, List.reverse, List.reverseAux, List.cons_append, List.nil_append, Option.toList, Int.toNat, Int.reduceToNat, if_pos, if_neg, reduceIte, ↓reduceIte, Nat.reduceAdd, Nat.reduceEqDiff, Nat.reduceBEq, beq_self_eq_true, Bool.not_true, Bool.not_false, Bool.and_true, Bool.and_false, Bool.true_and, Bool.false_and, gI_sI, gI_sL, gI_sA, gI_sM, gL_sI, gL_sL, gL_sA, gL_sM, aI_sI, aI_sL, aI_sA, aI_sM, aL_sI, aL_sL, aL_sA, aL_sM]; try dsimp only
      refine ⟨trivial, fun w5 τ5 hq5 => ?_⟩
      obtain ⟨rfl, r5, rfl, hr5⟩ := hq5 trivial
      dsimp only [Option.toList, List.cons_append, List.nil_append, Nat.beq, gI_sI, gI_sL, gI_sA, gI_sM, gL_sI, gL_sL, gL_sA, gL_sM, aI_sI, aI_sL, aI_sA, aI_sM, aL_sI, aL_sL, aL_sA, aL_sM]
      refine ⟨fun h6 => ?_, fun h6 => ?_⟩
      · refine hB _ _ _ _ _ (fun m7 hm7 => ?_)
        dsimp only [ugo, uwp, ust, uct, rfd, Btype, Btype_25, Nat.beq, lv_args, rlk, rs1, rs2, rdl, rky, rcd, rno, rsw, Value.category, List.filter, List.take, List.drop, List.reverse, List.reverseAux, List.cons_append, List.nil_append, Option.toList, Int.toNat, Int.reduceToNat, if_pos, if_neg, reduceIte, ↓reduceIte, Nat.reduceAdd, Nat.reduceEqDiff, Nat.reduceBEq, beq_self_eq_true, Bool.not_true, Bool.not_false, Bool.and_true, Bool.and_false, Bool.true_and, Bool.false_and, gI_sI, gI_sL, gI_sA, gI_sM, gL_sI, gL_sL, gL_sA, gL_sM, aI_sI, aI_sL, aI_sA, aI_sM, aL_sI, aL_sL, aL_sA, aL_sM]; try dsimp only
        intro p8
        refine hB _ _ _ _ _ (fun m9 hm9 => ?_)
        dsimp only [ugo, uwp, ust, uct, rfd, Btype, Btype_31, Nat.beq, lv_args, rlk, rs1, rs2, rdl, rky, rcd, rno, rsw, Value.category, List.filter, List.take, List.drop, List.reverse, List.reverseAux, List.cons_append, List.nil_append, Option.toList, Int.toNat, Int.reduceToNat, if_pos, if_neg, reduceIte, ↓reduceIte, Nat.reduceAdd, Nat.reduceEqDiff, Nat.reduceBEq, beq_self_eq_true, Bool.not_true, Bool.not_false, Bool.and_true, Bool.and_false, Bool.true_and, Bool.false_and, gI_sI, gI_sL, gI_sA, gI_sM, gL_sI, gL_sL, gL_sA, gL_sM, aI_sI, aI_sL, aI_sA, aI_sM, aL_sI, aL_sL, aL_sA, aL_sM]; try dsimp only
        unfold Qv_type
        try dsimp only
        exact ⟨hjd2, _, rfl, Or.inr ⟨by assumption, r5, hr5, Or.inr ⟨by first | assumption | exact Int32.not_lt.mpr (by assumption), rfl⟩⟩⟩
      · refine hB _ _ _ _ _ (fun m10 hm10 => ?_)
        dsimp only [ugo, uwp, ust, uct, rfd, Btype, Btype_21, Nat.beq, lv_args, rlk, rs1, rs2, rdl, rky, rcd, rno, rsw, Value.category, List.filter, List.take, List.drop, List.reverse, List.reverseAux, List.cons_append, List.nil_append, Option.toList, Int.toNat, Int.reduceToNat, if_pos, if_neg, reduceIte, ↓reduceIte, Nat.reduceAdd, Nat.reduceEqDiff, Nat.reduceBEq, beq_self_eq_true, Bool.not_true, Bool.not_false, Bool.and_true, Bool.and_false, Bool.true_and, Bool.false_and, gI_sI, gI_sL, gI_sA, gI_sM, gL_sI, gL_sL, gL_sA, gL_sM, aI_sI, aI_sL, aI_sA, aI_sM, aL_sI, aL_sL, aL_sA, aL_sM, oi_m1]; try dsimp only
        refine hB _ _ _ _ _ (fun m11 hm11 => ?_)
        dsimp only [ugo, uwp, ust, uct, rfd, Btype, Btype_31, Nat.beq, lv_args, rlk, rs1, rs2, rdl, rky, rcd, rno, rsw, Value.category, List.filter, List.take, List.drop, List.reverse, List.reverseAux, List.cons_append, List.nil_append, Option.toList, Int.toNat, Int.reduceToNat, if_pos, if_neg, reduceIte, ↓reduceIte, Nat.reduceAdd, Nat.reduceEqDiff, Nat.reduceBEq, beq_self_eq_true, Bool.not_true, Bool.not_false, Bool.and_true, Bool.and_false, Bool.true_and, Bool.false_and, gI_sI, gI_sL, gI_sA, gI_sM, gL_sI, gL_sL, gL_sA, gL_sM, aI_sI, aI_sL, aI_sA, aI_sM, aL_sI, aL_sL, aL_sA, aL_sM]; try dsimp only
        unfold Qv_type
        try dsimp only
        exact ⟨hjd2, _, rfl, Or.inr ⟨by assumption, r5, hr5, Or.inl ⟨by first | assumption | exact Int32.not_le.mp (by assumption), rfl⟩⟩⟩
    · have c3 : ¬ (gI τ2 66 = 0) := fun q => (hb2).mpr q h3
      refine hB _ _ _ _ _ (fun m12 hm12 => ?_)
      dsimp only [ugo, uwp, ust, uct, rfd, Btype, Btype_7, Nat.beq, lv_args, rlk, rs1, rs2, rdl, rky, rcd, rno, rsw, Value.category, List.filter, List.take, List.drop, List.reverse, List.reverseAux, List.cons_append, List.nil_append, Option.toList, Int.toNat, Int.reduceToNat, if_pos, if_neg, reduceIte, ↓reduceIte, Nat.reduceAdd, Nat.reduceEqDiff, Nat.reduceBEq, beq_self_eq_true, Bool.not_true, Bool.not_false, Bool.and_true, Bool.and_false, Bool.true_and, Bool.false_and, gI_sI, gI_sL, gI_sA, gI_sM, gL_sI, gL_sL, gL_sA, gL_sM, aI_sI, aI_sL, aI_sA, aI_sM, aL_sI, aL_sL, aL_sA, aL_sM, oi_m2]; try dsimp only
      unfold Qv_type
      try dsimp only
      exact ⟨hjd2, _, rfl, Or.inl ⟨by assumption, rfl⟩⟩
  next => exact hP.elim
theorem w_type : UMet 135 (fun _ _ => True) Qw_type := fun A1 σ _ w τ h hP => v_type A1 σ hP w τ h
def Pv_constant : UP1 := fun A1 σ => match A1 with
  | [.int i, .int k] => True
  | _ => False
def Qv_constant : UQ1 := fun A1 σ w τ => match A1 with
  | [.int i, .int k] => JdR σ τ ∧ ∃ r : Int64, w = some (.long r) ∧ ((¬ gI τ 66 = 0 ∧ r = (Int64.ofInt (-1234567890123))) ∨ (gI τ 66 = 0 ∧ ∃ x, XaR τ i k x ∧ (((x < 0 ∨ aI τ 78 x.toNatClampNeg = 0) ∧ r = (Int64.ofInt (-1234567890123))) ∨ (¬ (x < 0 ∨ aI τ 78 x.toNatClampNeg = 0) ∧ r = aL τ 79 x.toNatClampNeg))))
  | _ => False
def Qw_constant : UQ1 := fun A1 σ w τ => Pv_constant A1 σ → Qv_constant A1 σ w τ
set_option maxRecDepth 100000 in
set_option maxHeartbeats 4000000 in
theorem v_constant : UMet 136 (Pv_constant) (Qv_constant) := by
  refine UMet.by Bconstant [(134, (fun _ _ => True), Qw_expAt), (125, (fun _ _ => True), Qw_isGood)] rfl (ucc w_expAt (ucc w_isGood uc0)) ?_
  intro A1 σ hP K hB hW
  unfold Pv_constant at hP
  split at hP
  next i k =>
    intro n0
    refine hB _ _ _ _ _ (fun m1 hm1 => ?_)
    dsimp only [ugo, uwp, ust, uct, rfd, Bconstant, Bconstant_0, Nat.beq, lv_args, rlk, rs1, rs2, rdl, rky, rcd, rno, rsw, Value.category, List.filter, List.take, List.drop, List.reverse, List.reverseAux, List.cons_append, List.nil_append, Option.toList, Int.toNat, Int.reduceToNat, if_pos, if_neg, reduceIte, ↓reduceIte, Nat.reduceAdd, Nat.reduceEqDiff, Nat.reduceBEq, beq_self_eq_true, Bool.not_true, Bool.not_false, Bool.and_true, Bool.and_false, Bool.true_and, Bool.false_and, gI_sI, gI_sL, gI_sA, gI_sM, gL_sI, gL_sL, gL_sA, gL_sM, aI_sI, aI_sL, aI_sA, aI_sM, aL_sI, aL_sL, aL_sA, aL_sM]; try dsimp only
    refine ⟨trivial, fun w2 τ2 hq2 => ?_⟩
    obtain ⟨hjd2, b2, rfl, hb2⟩ := hq2 trivial
    dsimp only [Option.toList, List.cons_append, List.nil_append, Nat.beq, gI_sI, gI_sL, gI_sA, gI_sM, gL_sI, gL_sL, gL_sA, gL_sM, aI_sI, aI_sL, aI_sA, aI_sM, aL_sI, aL_sL, aL_sA, aL_sM]
    refine ⟨fun h3 => ?_, fun h3 => ?_⟩
    · have c3 : gI τ2 66 = 0 := (hb2).mp h3
      refine hB _ _ _ _ _ (fun m4 hm4 => ?_)
      dsimp only [ugo, uwp, ust, uct, rfd, Bconstant, Bconstant_11, Nat.beq, lv_args, rlk, rs1, rs2, rdl, rky, rcd, rno, rsw, Value.category, List.filter, List.take, List.drop, List.reverse, List.reverseAux, List.cons_append, List.nil_append, Option.toList, Int.toNat, Int.reduceToNat, if_pos, if_neg, reduceIte, ↓reduceIte, Nat.reduceAdd, Nat.reduceEqDiff, Nat.reduceBEq, beq_self_eq_true, Bool.not_true, Bool.not_false, Bool.and_true, Bool.and_false, Bool.true_and, Bool.false_and, gI_sI, gI_sL, gI_sA, gI_sM, gL_sI, gL_sL, gL_sA, gL_sM, aI_sI, aI_sL, aI_sA, aI_sM, aL_sI, aL_sL, aL_sA, aL_sM]; try dsimp only
      refine ⟨trivial, fun w5 τ5 hq5 => ?_⟩
      obtain ⟨rfl, r5, rfl, hr5⟩ := hq5 trivial
      dsimp only [Option.toList, List.cons_append, List.nil_append, Nat.beq, gI_sI, gI_sL, gI_sA, gI_sM, gL_sI, gL_sL, gL_sA, gL_sM, aI_sI, aI_sL, aI_sA, aI_sM, aL_sI, aL_sL, aL_sA, aL_sM]
      refine ⟨fun h6 => ?_, fun h6 => ?_⟩
      · refine hB _ _ _ _ _ (fun m7 hm7 => ?_)
        dsimp only [ugo, uwp, ust, uct, rfd, Bconstant, Bconstant_31, Nat.beq, lv_args, rlk, rs1, rs2, rdl, rky, rcd, rno, rsw, Value.category, List.filter, List.take, List.drop, List.reverse, List.reverseAux, List.cons_append, List.nil_append, Option.toList, Int.toNat, Int.reduceToNat, if_pos, if_neg, reduceIte, ↓reduceIte, Nat.reduceAdd, Nat.reduceEqDiff, Nat.reduceBEq, beq_self_eq_true, Bool.not_true, Bool.not_false, Bool.and_true, Bool.and_false, Bool.true_and, Bool.false_and, gI_sI, gI_sL, gI_sA, gI_sM, gL_sI, gL_sL, gL_sA, gL_sM, aI_sI, aI_sL, aI_sA, aI_sM, aL_sI, aL_sL, aL_sA, aL_sM]; try dsimp only
        refine hB _ _ _ _ _ (fun m8 hm8 => ?_)
        dsimp only [ugo, uwp, ust, uct, rfd, Bconstant, Bconstant_43, Nat.beq, lv_args, rlk, rs1, rs2, rdl, rky, rcd, rno, rsw, Value.category, List.filter, List.take, List.drop, List.reverse, List.reverseAux, List.cons_append, List.nil_append, Option.toList, Int.toNat, Int.reduceToNat, if_pos, if_neg, reduceIte, ↓reduceIte, Nat.reduceAdd, Nat.reduceEqDiff, Nat.reduceBEq, beq_self_eq_true, Bool.not_true, Bool.not_false, Bool.and_true, Bool.and_false, Bool.true_and, Bool.false_and, gI_sI, gI_sL, gI_sA, gI_sM, gL_sI, gL_sL, gL_sA, gL_sM, aI_sI, aI_sL, aI_sA, aI_sM, aL_sI, aL_sL, aL_sA, aL_sM]; try dsimp only
        unfold Qv_constant
        try dsimp only
        exact ⟨hjd2, _, rfl, Or.inr ⟨by assumption, r5, hr5, Or.inl ⟨Or.inl (by assumption), rfl⟩⟩⟩
      · refine hB _ _ _ _ _ (fun m9 hm9 => ?_)
        dsimp only [ugo, uwp, ust, uct, rfd, Bconstant, Bconstant_22, Nat.beq, lv_args, rlk, rs1, rs2, rdl, rky, rcd, rno, rsw, Value.category, List.filter, List.take, List.drop, List.reverse, List.reverseAux, List.cons_append, List.nil_append, Option.toList, Int.toNat, Int.reduceToNat, if_pos, if_neg, reduceIte, ↓reduceIte, Nat.reduceAdd, Nat.reduceEqDiff, Nat.reduceBEq, beq_self_eq_true, Bool.not_true, Bool.not_false, Bool.and_true, Bool.and_false, Bool.true_and, Bool.false_and, gI_sI, gI_sL, gI_sA, gI_sM, gL_sI, gL_sL, gL_sA, gL_sM, aI_sI, aI_sL, aI_sA, aI_sM, aL_sI, aL_sL, aL_sA, aL_sM]; try dsimp only
        intro p10
        refine ⟨fun h11 => ?_, fun h11 => ?_⟩
        · refine hB _ _ _ _ _ (fun m12 hm12 => ?_)
          dsimp only [ugo, uwp, ust, uct, rfd, Bconstant, Bconstant_37, Nat.beq, lv_args, rlk, rs1, rs2, rdl, rky, rcd, rno, rsw, Value.category, List.filter, List.take, List.drop, List.reverse, List.reverseAux, List.cons_append, List.nil_append, Option.toList, Int.toNat, Int.reduceToNat, if_pos, if_neg, reduceIte, ↓reduceIte, Nat.reduceAdd, Nat.reduceEqDiff, Nat.reduceBEq, beq_self_eq_true, Bool.not_true, Bool.not_false, Bool.and_true, Bool.and_false, Bool.true_and, Bool.false_and, gI_sI, gI_sL, gI_sA, gI_sM, gL_sI, gL_sL, gL_sA, gL_sM, aI_sI, aI_sL, aI_sA, aI_sM, aL_sI, aL_sL, aL_sA, aL_sM]; try dsimp only
          intro p13
          refine hB _ _ _ _ _ (fun m14 hm14 => ?_)
          dsimp only [ugo, uwp, ust, uct, rfd, Bconstant, Bconstant_43, Nat.beq, lv_args, rlk, rs1, rs2, rdl, rky, rcd, rno, rsw, Value.category, List.filter, List.take, List.drop, List.reverse, List.reverseAux, List.cons_append, List.nil_append, Option.toList, Int.toNat, Int.reduceToNat, if_pos, if_neg, reduceIte, ↓reduceIte, Nat.reduceAdd, Nat.reduceEqDiff, Nat.reduceBEq, beq_self_eq_true, Bool.not_true, Bool.not_false, Bool.and_true, Bool.and_false, Bool.true_and, Bool.false_and, gI_sI, gI_sL, gI_sA, gI_sM, gL_sI, gL_sL, gL_sA, gL_sM, aI_sI, aI_sL, aI_sA, aI_sM, aL_sI, aL_sL, aL_sA, aL_sM]; try dsimp only
          unfold Qv_constant
          try dsimp only
          exact ⟨hjd2, _, rfl, Or.inr ⟨by assumption, r5, hr5, Or.inr ⟨fun q => q.elim (fun z => absurd z (by assumption)) (fun z => absurd z (by assumption)), rfl⟩⟩⟩
        · refine hB _ _ _ _ _ (fun m15 hm15 => ?_)
          dsimp only [ugo, uwp, ust, uct, rfd, Bconstant, Bconstant_31, Nat.beq, lv_args, rlk, rs1, rs2, rdl, rky, rcd, rno, rsw, Value.category, List.filter, List.take, List.drop, List.reverse, List.reverseAux, List.cons_append, List.nil_append, Option.toList, Int.toNat, Int.reduceToNat, if_pos, if_neg, reduceIte, ↓reduceIte, Nat.reduceAdd, Nat.reduceEqDiff, Nat.reduceBEq, beq_self_eq_true, Bool.not_true, Bool.not_false, Bool.and_true, Bool.and_false, Bool.true_and, Bool.false_and, gI_sI, gI_sL, gI_sA, gI_sM, gL_sI, gL_sL, gL_sA, gL_sM, aI_sI, aI_sL, aI_sA, aI_sM, aL_sI, aL_sL, aL_sA, aL_sM]; try dsimp only
          refine hB _ _ _ _ _ (fun m16 hm16 => ?_)
          dsimp only [ugo, uwp, ust, uct, rfd, Bconstant, Bconstant_43, Nat.beq, lv_args, rlk, rs1, rs2, rdl, rky, rcd, rno, rsw, Value.category, List.filter, List.take, List.drop, List.reverse, List.reverseAux, List.cons_append, List.nil_append, Option.toList, Int.toNat, Int.reduceToNat, if_pos, if_neg, reduceIte, ↓reduceIte, Nat.reduceAdd, Nat.reduceEqDiff, Nat.reduceBEq, beq_self_eq_true, Bool.not_true, Bool.not_false, Bool.and_true, Bool.and_false, Bool.true_and, Bool.false_and, gI_sI, gI_sL, gI_sA, gI_sM, gL_sI, gL_sL, gL_sA, gL_sM, aI_sI, aI_sL, aI_sA, aI_sM, aL_sI, aL_sL, aL_sA, aL_sM]; try dsimp only
          unfold Qv_constant
          try dsimp only
          exact ⟨hjd2, _, rfl, Or.inr ⟨by assumption, r5, hr5, Or.inl ⟨Or.inr (by assumption), rfl⟩⟩⟩
    · have c3 : ¬ (gI τ2 66 = 0) := fun q => (hb2).mpr q h3
      refine hB _ _ _ _ _ (fun m17 hm17 => ?_)
      dsimp only [ugo, uwp, ust, uct, rfd, Bconstant, Bconstant_7, Nat.beq, lv_args, rlk, rs1, rs2, rdl, rky, rcd, rno, rsw, Value.category, List.filter, List.take, List.drop, List.reverse, List.reverseAux, List.cons_append, List.nil_append, Option.toList, Int.toNat, Int.reduceToNat, if_pos, if_neg, reduceIte, ↓reduceIte, Nat.reduceAdd, Nat.reduceEqDiff, Nat.reduceBEq, beq_self_eq_true, Bool.not_true, Bool.not_false, Bool.and_true, Bool.and_false, Bool.true_and, Bool.false_and, gI_sI, gI_sL, gI_sA, gI_sM, gL_sI, gL_sL, gL_sA, gL_sM, aI_sI, aI_sL, aI_sA, aI_sM, aL_sI, aL_sL, aL_sA, aL_sM]; try dsimp only
      unfold Qv_constant
      try dsimp only
      exact ⟨hjd2, _, rfl, Or.inl ⟨by assumption, rfl⟩⟩
  next => exact hP.elim
theorem w_constant : UMet 136 (fun _ _ => True) Qw_constant := fun A1 σ _ w τ h hP => v_constant A1 σ hP w τ h
def Pv_ends : UP1 := fun A1 σ => match A1 with
  | [.int i] => True
  | _ => False
def Qv_ends : UQ1 := fun A1 σ w τ => match A1 with
  | [.int i] => JdR σ τ ∧ ∃ r : Int32, w = some (.int r) ∧ ((¬ gI τ 66 = 0 ∧ r = -2) ∨ (gI τ 66 = 0 ∧ ((¬ (tokR τ i ∧ ¬ aI τ 109 i.toNatClampNeg = 0) ∧ r = -1) ∨ ((tokR τ i ∧ ¬ aI τ 109 i.toNatClampNeg = 0) ∧ r = if aI τ 111 i.toNatClampNeg = 0 then 0 else 1))))
  | _ => False
def Qw_ends : UQ1 := fun A1 σ w τ => Pv_ends A1 σ → Qv_ends A1 σ w τ
set_option maxRecDepth 100000 in
set_option maxHeartbeats 4000000 in
theorem v_ends : UMet 137 (Pv_ends) (Qv_ends) := by
  refine UMet.by Bends [(125, (fun _ _ => True), Qw_isGood), (129, (fun _ _ => True), Qw_isToken)] rfl (ucc w_isGood (ucc w_isToken uc0)) ?_
  intro A1 σ hP K hB hW
  unfold Pv_ends at hP
  split at hP
  next i =>
    intro n0
    refine hB _ _ _ _ _ (fun m1 hm1 => ?_)
    dsimp only [ugo, uwp, ust, uct, rfd, Bends, Bends_0, Nat.beq, lv_args, rlk, rs1, rs2, rdl, rky, rcd, rno, rsw, Value.category, List.filter, List.take, List.drop, List.reverse, List.reverseAux, List.cons_append, List.nil_append, Option.toList, Int.toNat, Int.reduceToNat, if_pos, if_neg, reduceIte, ↓reduceIte, Nat.reduceAdd, Nat.reduceEqDiff, Nat.reduceBEq, beq_self_eq_true, Bool.not_true, Bool.not_false, Bool.and_true, Bool.and_false, Bool.true_and, Bool.false_and, gI_sI, gI_sL, gI_sA, gI_sM, gL_sI, gL_sL, gL_sA, gL_sM, aI_sI, aI_sL, aI_sA, aI_sM, aL_sI, aL_sL, aL_sA, aL_sM]; try dsimp only
    refine ⟨trivial, fun w2 τ2 hq2 => ?_⟩
    obtain ⟨hjd2, b2, rfl, hb2⟩ := hq2 trivial
    dsimp only [Option.toList, List.cons_append, List.nil_append, Nat.beq, gI_sI, gI_sL, gI_sA, gI_sM, gL_sI, gL_sL, gL_sA, gL_sM, aI_sI, aI_sL, aI_sA, aI_sM, aL_sI, aL_sL, aL_sA, aL_sM]
    refine ⟨fun h3 => ?_, fun h3 => ?_⟩
    · have c3 : gI τ2 66 = 0 := (hb2).mp h3
      refine hB _ _ _ _ _ (fun m4 hm4 => ?_)
      dsimp only [ugo, uwp, ust, uct, rfd, Bends, Bends_10, Nat.beq, lv_args, rlk, rs1, rs2, rdl, rky, rcd, rno, rsw, Value.category, List.filter, List.take, List.drop, List.reverse, List.reverseAux, List.cons_append, List.nil_append, Option.toList, Int.toNat, Int.reduceToNat, if_pos, if_neg, reduceIte, ↓reduceIte, Nat.reduceAdd, Nat.reduceEqDiff, Nat.reduceBEq, beq_self_eq_true, Bool.not_true, Bool.not_false, Bool.and_true, Bool.and_false, Bool.true_and, Bool.false_and, gI_sI, gI_sL, gI_sA, gI_sM, gL_sI, gL_sL, gL_sA, gL_sM, aI_sI, aI_sL, aI_sA, aI_sM, aL_sI, aL_sL, aL_sA, aL_sM]; try dsimp only
      refine ⟨trivial, fun w5 τ5 hq5 => ?_⟩
      obtain ⟨rfl, b5, rfl, hb5⟩ := hq5 trivial
      dsimp only [Option.toList, List.cons_append, List.nil_append, Nat.beq, gI_sI, gI_sL, gI_sA, gI_sM, gL_sI, gL_sL, gL_sA, gL_sM, aI_sI, aI_sL, aI_sA, aI_sM, aL_sI, aL_sL, aL_sA, aL_sM]
      refine ⟨fun h6 => ?_, fun h6 => ?_⟩
      · have c6 : ¬ (tokR τ2 i) := fun q => (hb5).mpr q h6
        refine hB _ _ _ _ _ (fun m7 hm7 => ?_)
        dsimp only [ugo, uwp, ust, uct, rfd, Bends, Bends_27, Nat.beq, lv_args, rlk, rs1, rs2, rdl, rky, rcd, rno, rsw, Value.category, List.filter, List.take, List.drop, List.reverse, List.reverseAux, List.cons_append, List.nil_append, Option.toList, Int.toNat, Int.reduceToNat, if_pos, if_neg, reduceIte, ↓reduceIte, Nat.reduceAdd, Nat.reduceEqDiff, Nat.reduceBEq, beq_self_eq_true, Bool.not_true, Bool.not_false, Bool.and_true, Bool.and_false, Bool.true_and, Bool.false_and, gI_sI, gI_sL, gI_sA, gI_sM, gL_sI, gL_sL, gL_sA, gL_sM, aI_sI, aI_sL, aI_sA, aI_sM, aL_sI, aL_sL, aL_sA, aL_sM, oi_m1]; try dsimp only
        refine hB _ _ _ _ _ (fun m8 hm8 => ?_)
        dsimp only [ugo, uwp, ust, uct, rfd, Bends, Bends_45, Nat.beq, lv_args, rlk, rs1, rs2, rdl, rky, rcd, rno, rsw, Value.category, List.filter, List.take, List.drop, List.reverse, List.reverseAux, List.cons_append, List.nil_append, Option.toList, Int.toNat, Int.reduceToNat, if_pos, if_neg, reduceIte, ↓reduceIte, Nat.reduceAdd, Nat.reduceEqDiff, Nat.reduceBEq, beq_self_eq_true, Bool.not_true, Bool.not_false, Bool.and_true, Bool.and_false, Bool.true_and, Bool.false_and, gI_sI, gI_sL, gI_sA, gI_sM, gL_sI, gL_sL, gL_sA, gL_sM, aI_sI, aI_sL, aI_sA, aI_sM, aL_sI, aL_sL, aL_sA, aL_sM]; try dsimp only
        unfold Qv_ends
        try dsimp only
        exact ⟨hjd2, _, rfl, Or.inr ⟨by assumption, Or.inl ⟨fun q => by obtain ⟨q1, q2⟩ := q; contradiction, rfl⟩⟩⟩
      · have c6 : tokR τ2 i := (hb5).mp h6
        refine hB _ _ _ _ _ (fun m9 hm9 => ?_)
        dsimp only [ugo, uwp, ust, uct, rfd, Bends, Bends_18, Nat.beq, lv_args, rlk, rs1, rs2, rdl, rky, rcd, rno, rsw, Value.category, List.filter, List.take, List.drop, List.reverse, List.reverseAux, List.cons_append, List.nil_append, Option.toList, Int.toNat, Int.reduceToNat, if_pos, if_neg, reduceIte, ↓reduceIte, Nat.reduceAdd, Nat.reduceEqDiff, Nat.reduceBEq, beq_self_eq_true, Bool.not_true, Bool.not_false, Bool.and_true, Bool.and_false, Bool.true_and, Bool.false_and, gI_sI, gI_sL, gI_sA, gI_sM, gL_sI, gL_sL, gL_sA, gL_sM, aI_sI, aI_sL, aI_sA, aI_sM, aL_sI, aL_sL, aL_sA, aL_sM]; try dsimp only
        intro p10
        refine ⟨fun h11 => ?_, fun h11 => ?_⟩
        · refine hB _ _ _ _ _ (fun m12 hm12 => ?_)
          dsimp only [ugo, uwp, ust, uct, rfd, Bends, Bends_31, Nat.beq, lv_args, rlk, rs1, rs2, rdl, rky, rcd, rno, rsw, Value.category, List.filter, List.take, List.drop, List.reverse, List.reverseAux, List.cons_append, List.nil_append, Option.toList, Int.toNat, Int.reduceToNat, if_pos, if_neg, reduceIte, ↓reduceIte, Nat.reduceAdd, Nat.reduceEqDiff, Nat.reduceBEq, beq_self_eq_true, Bool.not_true, Bool.not_false, Bool.and_true, Bool.and_false, Bool.true_and, Bool.false_and, gI_sI, gI_sL, gI_sA, gI_sM, gL_sI, gL_sL, gL_sA, gL_sM, aI_sI, aI_sL, aI_sA, aI_sM, aL_sI, aL_sL, aL_sA, aL_sM]; try dsimp only
          intro p13
          refine ⟨fun h14 => ?_, fun h14 => ?_⟩
          · refine hB _ _ _ _ _ (fun m15 hm15 => ?_)
            dsimp only [ugo, uwp, ust, uct, rfd, Bends, Bends_44, Nat.beq, lv_args, rlk, rs1, rs2, rdl, rky, rcd, rno, rsw, Value.category, List.filter, List.take, List.drop, List.reverse, List.reverseAux, List.cons_append, List.nil_append, Option.toList, Int.toNat, Int.reduceToNat, if_pos, if_neg, reduceIte, ↓reduceIte, Nat.reduceAdd, Nat.reduceEqDiff, Nat.reduceBEq, beq_self_eq_true, Bool.not_true, Bool.not_false, Bool.and_true, Bool.and_false, Bool.true_and, Bool.false_and, gI_sI, gI_sL, gI_sA, gI_sM, gL_sI, gL_sL, gL_sA, gL_sM, aI_sI, aI_sL, aI_sA, aI_sM, aL_sI, aL_sL, aL_sA, aL_sM, oi_0]; try dsimp only
            refine hB _ _ _ _ _ (fun m16 hm16 => ?_)
            dsimp only [ugo, uwp, ust, uct, rfd, Bends, Bends_45, Nat.beq, lv_args, rlk, rs1, rs2, rdl, rky, rcd, rno, rsw, Value.category, List.filter, List.take, List.drop, List.reverse, List.reverseAux, List.cons_append, List.nil_append, Option.toList, Int.toNat, Int.reduceToNat, if_pos, if_neg, reduceIte, ↓reduceIte, Nat.reduceAdd, Nat.reduceEqDiff, Nat.reduceBEq, beq_self_eq_true, Bool.not_true, Bool.not_false, Bool.and_true, Bool.and_false, Bool.true_and, Bool.false_and, gI_sI, gI_sL, gI_sA, gI_sM, gL_sI, gL_sL, gL_sA, gL_sM, aI_sI, aI_sL, aI_sA, aI_sM, aL_sI, aL_sL, aL_sA, aL_sM]; try dsimp only
            unfold Qv_ends
            try dsimp only
            exact ⟨hjd2, _, rfl, Or.inr ⟨by assumption, Or.inr ⟨⟨by assumption, by assumption⟩, by first | rw [if_pos (by assumption)] | rw [if_neg (by assumption)]⟩⟩⟩
          · refine hB _ _ _ _ _ (fun m17 hm17 => ?_)
            dsimp only [ugo, uwp, ust, uct, rfd, Bends, Bends_40, Nat.beq, lv_args, rlk, rs1, rs2, rdl, rky, rcd, rno, rsw, Value.category, List.filter, List.take, List.drop, List.reverse, List.reverseAux, List.cons_append, List.nil_append, Option.toList, Int.toNat, Int.reduceToNat, if_pos, if_neg, reduceIte, ↓reduceIte, Nat.reduceAdd, Nat.reduceEqDiff, Nat.reduceBEq, beq_self_eq_true, Bool.not_true, Bool.not_false, Bool.and_true, Bool.and_false, Bool.true_and, Bool.false_and, gI_sI, gI_sL, gI_sA, gI_sM, gL_sI, gL_sL, gL_sA, gL_sM, aI_sI, aI_sL, aI_sA, aI_sM, aL_sI, aL_sL, aL_sA, aL_sM, oi_1]; try dsimp only
            refine hB _ _ _ _ _ (fun m18 hm18 => ?_)
            dsimp only [ugo, uwp, ust, uct, rfd, Bends, Bends_45, Nat.beq, lv_args, rlk, rs1, rs2, rdl, rky, rcd, rno, rsw, Value.category, List.filter, List.take, List.drop, List.reverse, List.reverseAux, List.cons_append, List.nil_append, Option.toList, Int.toNat, Int.reduceToNat, if_pos, if_neg, reduceIte, ↓reduceIte, Nat.reduceAdd, Nat.reduceEqDiff, Nat.reduceBEq, beq_self_eq_true, Bool.not_true, Bool.not_false, Bool.and_true, Bool.and_false, Bool.true_and, Bool.false_and, gI_sI, gI_sL, gI_sA, gI_sM, gL_sI, gL_sL, gL_sA, gL_sM, aI_sI, aI_sL, aI_sA, aI_sM, aL_sI, aL_sL, aL_sA, aL_sM]; try dsimp only
            unfold Qv_ends
            try dsimp only
            exact ⟨hjd2, _, rfl, Or.inr ⟨by assumption, Or.inr ⟨⟨by assumption, by assumption⟩, by first | rw [if_pos (by assumption)] | rw [if_neg (by assumption)]⟩⟩⟩
        · refine hB _ _ _ _ _ (fun m19 hm19 => ?_)
          dsimp only [ugo, uwp, ust, uct, rfd, Bends, Bends_27, Nat.beq, lv_args, rlk, rs1, rs2, rdl, rky, rcd, rno, rsw, Value.category, List.filter, List.take, List.drop, List.reverse, List.reverseAux, List.cons_append, List.nil_append, Option.toList, Int.toNat, Int.reduceToNat, if_pos, if_neg, reduceIte, ↓reduceIte, Nat.reduceAdd, Nat.reduceEqDiff, Nat.reduceBEq, beq_self_eq_true, Bool.not_true, Bool.not_false, Bool.and_true, Bool.and_false, Bool.true_and, Bool.false_and, gI_sI, gI_sL, gI_sA, gI_sM, gL_sI, gL_sL, gL_sA, gL_sM, aI_sI, aI_sL, aI_sA, aI_sM, aL_sI, aL_sL, aL_sA, aL_sM, oi_m1]; try dsimp only
          refine hB _ _ _ _ _ (fun m20 hm20 => ?_)
          dsimp only [ugo, uwp, ust, uct, rfd, Bends, Bends_45, Nat.beq, lv_args, rlk, rs1, rs2, rdl, rky, rcd, rno, rsw, Value.category, List.filter, List.take, List.drop, List.reverse, List.reverseAux, List.cons_append, List.nil_append, Option.toList, Int.toNat, Int.reduceToNat, if_pos, if_neg, reduceIte, ↓reduceIte, Nat.reduceAdd, Nat.reduceEqDiff, Nat.reduceBEq, beq_self_eq_true, Bool.not_true, Bool.not_false, Bool.and_true, Bool.and_false, Bool.true_and, Bool.false_and, gI_sI, gI_sL, gI_sA, gI_sM, gL_sI, gL_sL, gL_sA, gL_sM, aI_sI, aI_sL, aI_sA, aI_sM, aL_sI, aL_sL, aL_sA, aL_sM]; try dsimp only
          unfold Qv_ends
          try dsimp only
          exact ⟨hjd2, _, rfl, Or.inr ⟨by assumption, Or.inl ⟨fun q => by obtain ⟨q1, q2⟩ := q; contradiction, rfl⟩⟩⟩
    · have c3 : ¬ (gI τ2 66 = 0) := fun q => (hb2).mpr q h3
      refine hB _ _ _ _ _ (fun m21 hm21 => ?_)
      dsimp only [ugo, uwp, ust, uct, rfd, Bends, Bends_7, Nat.beq, lv_args, rlk, rs1, rs2, rdl, rky, rcd, rno, rsw, Value.category, List.filter, List.take, List.drop, List.reverse, List.reverseAux, List.cons_append, List.nil_append, Option.toList, Int.toNat, Int.reduceToNat, if_pos, if_neg, reduceIte, ↓reduceIte, Nat.reduceAdd, Nat.reduceEqDiff, Nat.reduceBEq, beq_self_eq_true, Bool.not_true, Bool.not_false, Bool.and_true, Bool.and_false, Bool.true_and, Bool.false_and, gI_sI, gI_sL, gI_sA, gI_sM, gL_sI, gL_sL, gL_sA, gL_sM, aI_sI, aI_sL, aI_sA, aI_sM, aL_sI, aL_sL, aL_sA, aL_sM, oi_m2]; try dsimp only
      unfold Qv_ends
      try dsimp only
      exact ⟨hjd2, _, rfl, Or.inl ⟨by assumption, rfl⟩⟩
  next => exact hP.elim
theorem w_ends : UMet 137 (fun _ _ => True) Qw_ends := fun A1 σ _ w τ h hP => v_ends A1 σ hP w τ h
def Pv_assigned : UP1 := fun A1 σ => match A1 with
  | [.int i, .int k] => True
  | _ => False
def Qv_assigned : UQ1 := fun A1 σ w τ => match A1 with
  | [.int i, .int k] => JdR σ τ ∧ ∃ r : Int32, w = some (.int r) ∧ ((¬ gI τ 66 = 0 ∧ r = -2) ∨ (gI τ 66 = 0 ∧ ((¬ (tokR τ i ∧ ¬ aI τ 109 i.toNatClampNeg = 0 ∧ 0 ≤ k ∧ k < gI τ 42 ∧ aI τ 43 k.toNatClampNeg < i ∧ i ≤ aI τ 48 k.toNatClampNeg) ∧ r = -1) ∨ ((tokR τ i ∧ ¬ aI τ 109 i.toNatClampNeg = 0 ∧ 0 ≤ k ∧ k < gI τ 42 ∧ aI τ 43 k.toNatClampNeg < i ∧ i ≤ aI τ 48 k.toNatClampNeg) ∧ ((bitR (aL τ 110 i.toNatClampNeg) k ∧ r = 1) ∨ (¬ bitR (aL τ 110 i.toNatClampNeg) k ∧ r = 0))))))
  | _ => False
def Qw_assigned : UQ1 := fun A1 σ w τ => Pv_assigned A1 σ → Qv_assigned A1 σ w τ
set_option maxRecDepth 100000 in
set_option maxHeartbeats 4000000 in
theorem v_assigned : UMet 138 (Pv_assigned) (Qv_assigned) := by
  refine UMet.by Bassigned [(125, (fun _ _ => True), Qw_isGood), (129, (fun _ _ => True), Qw_isToken)] rfl (ucc w_isGood (ucc w_isToken uc0)) ?_
  intro A1 σ hP K hB hW
  unfold Pv_assigned at hP
  split at hP
  next i k =>
    intro n0
    refine hB _ _ _ _ _ (fun m1 hm1 => ?_)
    dsimp only [ugo, uwp, ust, uct, rfd, Bassigned, Bassigned_0, Nat.beq, lv_args, rlk, rs1, rs2, rdl, rky, rcd, rno, rsw, Value.category, List.filter, List.take, List.drop, List.reverse, List.reverseAux, List.cons_append, List.nil_append, Option.toList, Int.toNat, Int.reduceToNat, if_pos, if_neg, reduceIte, ↓reduceIte, Nat.reduceAdd, Nat.reduceEqDiff, Nat.reduceBEq, beq_self_eq_true, Bool.not_true, Bool.not_false, Bool.and_true, Bool.and_false, Bool.true_and, Bool.false_and, gI_sI, gI_sL, gI_sA, gI_sM, gL_sI, gL_sL, gL_sA, gL_sM, aI_sI, aI_sL, aI_sA, aI_sM, aL_sI, aL_sL, aL_sA, aL_sM]; try dsimp only
    refine ⟨trivial, fun w2 τ2 hq2 => ?_⟩
    obtain ⟨hjd2, b2, rfl, hb2⟩ := hq2 trivial
    dsimp only [Option.toList, List.cons_append, List.nil_append, Nat.beq, gI_sI, gI_sL, gI_sA, gI_sM, gL_sI, gL_sL, gL_sA, gL_sM, aI_sI, aI_sL, aI_sA, aI_sM, aL_sI, aL_sL, aL_sA, aL_sM]
    refine ⟨fun h3 => ?_, fun h3 => ?_⟩
    · have c3 : gI τ2 66 = 0 := (hb2).mp h3
      refine hB _ _ _ _ _ (fun m4 hm4 => ?_)
      dsimp only [ugo, uwp, ust, uct, rfd, Bassigned, Bassigned_10, Nat.beq, lv_args, rlk, rs1, rs2, rdl, rky, rcd, rno, rsw, Value.category, List.filter, List.take, List.drop, List.reverse, List.reverseAux, List.cons_append, List.nil_append, Option.toList, Int.toNat, Int.reduceToNat, if_pos, if_neg, reduceIte, ↓reduceIte, Nat.reduceAdd, Nat.reduceEqDiff, Nat.reduceBEq, beq_self_eq_true, Bool.not_true, Bool.not_false, Bool.and_true, Bool.and_false, Bool.true_and, Bool.false_and, gI_sI, gI_sL, gI_sA, gI_sM, gL_sI, gL_sL, gL_sA, gL_sM, aI_sI, aI_sL, aI_sA, aI_sM, aL_sI, aL_sL, aL_sA, aL_sM]; try dsimp only
      refine ⟨trivial, fun w5 τ5 hq5 => ?_⟩
      obtain ⟨rfl, b5, rfl, hb5⟩ := hq5 trivial
      dsimp only [Option.toList, List.cons_append, List.nil_append, Nat.beq, gI_sI, gI_sL, gI_sA, gI_sM, gL_sI, gL_sL, gL_sA, gL_sM, aI_sI, aI_sL, aI_sA, aI_sM, aL_sI, aL_sL, aL_sA, aL_sM]
      refine ⟨fun h6 => ?_, fun h6 => ?_⟩
      · have c6 : ¬ (tokR τ2 i) := fun q => (hb5).mpr q h6
        refine hB _ _ _ _ _ (fun m7 hm7 => ?_)
        dsimp only [ugo, uwp, ust, uct, rfd, Bassigned, Bassigned_59, Nat.beq, lv_args, rlk, rs1, rs2, rdl, rky, rcd, rno, rsw, Value.category, List.filter, List.take, List.drop, List.reverse, List.reverseAux, List.cons_append, List.nil_append, Option.toList, Int.toNat, Int.reduceToNat, if_pos, if_neg, reduceIte, ↓reduceIte, Nat.reduceAdd, Nat.reduceEqDiff, Nat.reduceBEq, beq_self_eq_true, Bool.not_true, Bool.not_false, Bool.and_true, Bool.and_false, Bool.true_and, Bool.false_and, gI_sI, gI_sL, gI_sA, gI_sM, gL_sI, gL_sL, gL_sA, gL_sM, aI_sI, aI_sL, aI_sA, aI_sM, aL_sI, aL_sL, aL_sA, aL_sM, oi_m1]; try dsimp only
        unfold Qv_assigned
        try dsimp only
        exact ⟨hjd2, _, rfl, Or.inr ⟨by assumption, Or.inl ⟨fun q => by obtain ⟨q1, q2, q3, q4, q5, q6⟩ := q; first | contradiction | exact absurd q3 (Int32.not_le.mpr (by assumption)) | exact absurd q4 (Int32.not_lt.mpr (by assumption)) | exact absurd q5 (Int32.not_lt.mpr (by assumption)), rfl⟩⟩⟩
      · have c6 : tokR τ2 i := (hb5).mp h6
        refine hB _ _ _ _ _ (fun m8 hm8 => ?_)
        dsimp only [ugo, uwp, ust, uct, rfd, Bassigned, Bassigned_18, Nat.beq, lv_args, rlk, rs1, rs2, rdl, rky, rcd, rno, rsw, Value.category, List.filter, List.take, List.drop, List.reverse, List.reverseAux, List.cons_append, List.nil_append, Option.toList, Int.toNat, Int.reduceToNat, if_pos, if_neg, reduceIte, ↓reduceIte, Nat.reduceAdd, Nat.reduceEqDiff, Nat.reduceBEq, beq_self_eq_true, Bool.not_true, Bool.not_false, Bool.and_true, Bool.and_false, Bool.true_and, Bool.false_and, gI_sI, gI_sL, gI_sA, gI_sM, gL_sI, gL_sL, gL_sA, gL_sM, aI_sI, aI_sL, aI_sA, aI_sM, aL_sI, aL_sL, aL_sA, aL_sM]; try dsimp only
        intro p9
        refine ⟨fun h10 => ?_, fun h10 => ?_⟩
        · refine hB _ _ _ _ _ (fun m11 hm11 => ?_)
          dsimp only [ugo, uwp, ust, uct, rfd, Bassigned, Bassigned_59, Nat.beq, lv_args, rlk, rs1, rs2, rdl, rky, rcd, rno, rsw, Value.category, List.filter, List.take, List.drop, List.reverse, List.reverseAux, List.cons_append, List.nil_append, Option.toList, Int.toNat, Int.reduceToNat, if_pos, if_neg, reduceIte, ↓reduceIte, Nat.reduceAdd, Nat.reduceEqDiff, Nat.reduceBEq, beq_self_eq_true, Bool.not_true, Bool.not_false, Bool.and_true, Bool.and_false, Bool.true_and, Bool.false_and, gI_sI, gI_sL, gI_sA, gI_sM, gL_sI, gL_sL, gL_sA, gL_sM, aI_sI, aI_sL, aI_sA, aI_sM, aL_sI, aL_sL, aL_sA, aL_sM, oi_m1]; try dsimp only
          unfold Qv_assigned
          try dsimp only
          exact ⟨hjd2, _, rfl, Or.inr ⟨by assumption, Or.inl ⟨fun q => by obtain ⟨q1, q2, q3, q4, q5, q6⟩ := q; first | contradiction | exact absurd q3 (Int32.not_le.mpr (by assumption)) | exact absurd q4 (Int32.not_lt.mpr (by assumption)) | exact absurd q5 (Int32.not_lt.mpr (by assumption)), rfl⟩⟩⟩
        · refine hB _ _ _ _ _ (fun m12 hm12 => ?_)
          dsimp only [ugo, uwp, ust, uct, rfd, Bassigned, Bassigned_27, Nat.beq, lv_args, rlk, rs1, rs2, rdl, rky, rcd, rno, rsw, Value.category, List.filter, List.take, List.drop, List.reverse, List.reverseAux, List.cons_append, List.nil_append, Option.toList, Int.toNat, Int.reduceToNat, if_pos, if_neg, reduceIte, ↓reduceIte, Nat.reduceAdd, Nat.reduceEqDiff, Nat.reduceBEq, beq_self_eq_true, Bool.not_true, Bool.not_false, Bool.and_true, Bool.and_false, Bool.true_and, Bool.false_and, gI_sI, gI_sL, gI_sA, gI_sM, gL_sI, gL_sL, gL_sA, gL_sM, aI_sI, aI_sL, aI_sA, aI_sM, aL_sI, aL_sL, aL_sA, aL_sM]; try dsimp only
          refine ⟨fun h13 => ?_, fun h13 => ?_⟩
          · refine hB _ _ _ _ _ (fun m14 hm14 => ?_)
            dsimp only [ugo, uwp, ust, uct, rfd, Bassigned, Bassigned_59, Nat.beq, lv_args, rlk, rs1, rs2, rdl, rky, rcd, rno, rsw, Value.category, List.filter, List.take, List.drop, List.reverse, List.reverseAux, List.cons_append, List.nil_append, Option.toList, Int.toNat, Int.reduceToNat, if_pos, if_neg, reduceIte, ↓reduceIte, Nat.reduceAdd, Nat.reduceEqDiff, Nat.reduceBEq, beq_self_eq_true, Bool.not_true, Bool.not_false, Bool.and_true, Bool.and_false, Bool.true_and, Bool.false_and, gI_sI, gI_sL, gI_sA, gI_sM, gL_sI, gL_sL, gL_sA, gL_sM, aI_sI, aI_sL, aI_sA, aI_sM, aL_sI, aL_sL, aL_sA, aL_sM, oi_m1]; try dsimp only
            unfold Qv_assigned
            try dsimp only
            exact ⟨hjd2, _, rfl, Or.inr ⟨by assumption, Or.inl ⟨fun q => by obtain ⟨q1, q2, q3, q4, q5, q6⟩ := q; first | contradiction | exact absurd q3 (Int32.not_le.mpr (by assumption)) | exact absurd q4 (Int32.not_lt.mpr (by assumption)) | exact absurd q5 (Int32.not_lt.mpr (by assumption)), rfl⟩⟩⟩
          · refine hB _ _ _ _ _ (fun m15 hm15 => ?_)
            dsimp only [ugo, uwp, ust, uct, rfd, Bassigned, Bassigned_31, Nat.beq, lv_args, rlk, rs1, rs2, rdl, rky, rcd, rno, rsw, Value.category, List.filter, List.take, List.drop, List.reverse, List.reverseAux, List.cons_append, List.nil_append, Option.toList, Int.toNat, Int.reduceToNat, if_pos, if_neg, reduceIte, ↓reduceIte, Nat.reduceAdd, Nat.reduceEqDiff, Nat.reduceBEq, beq_self_eq_true, Bool.not_true, Bool.not_false, Bool.and_true, Bool.and_false, Bool.true_and, Bool.false_and, gI_sI, gI_sL, gI_sA, gI_sM, gL_sI, gL_sL, gL_sA, gL_sM, aI_sI, aI_sL, aI_sA, aI_sM, aL_sI, aL_sL, aL_sA, aL_sM]; try dsimp only
            refine ⟨fun h16 => ?_, fun h16 => ?_⟩
            · refine hB _ _ _ _ _ (fun m17 hm17 => ?_)
              dsimp only [ugo, uwp, ust, uct, rfd, Bassigned, Bassigned_59, Nat.beq, lv_args, rlk, rs1, rs2, rdl, rky, rcd, rno, rsw, Value.category, List.filter, List.take, List.drop, List.reverse, List.reverseAux, List.cons_append, List.nil_append, Option.toList, Int.toNat, Int.reduceToNat, if_pos, if_neg, reduceIte, ↓reduceIte, Nat.reduceAdd, Nat.reduceEqDiff, Nat.reduceBEq, beq_self_eq_true, Bool.not_true, Bool.not_false, Bool.and_true, Bool.and_false, Bool.true_and, Bool.false_and, gI_sI, gI_sL, gI_sA, gI_sM, gL_sI, gL_sL, gL_sA, gL_sM, aI_sI, aI_sL, aI_sA, aI_sM, aL_sI, aL_sL, aL_sA, aL_sM, oi_m1]; try dsimp only
              unfold Qv_assigned
              try dsimp only
              exact ⟨hjd2, _, rfl, Or.inr ⟨by assumption, Or.inl ⟨fun q => by obtain ⟨q1, q2, q3, q4, q5, q6⟩ := q; first | contradiction | exact absurd q3 (Int32.not_le.mpr (by assumption)) | exact absurd q4 (Int32.not_lt.mpr (by assumption)) | exact absurd q5 (Int32.not_lt.mpr (by assumption)), rfl⟩⟩⟩
            · refine hB _ _ _ _ _ (fun m18 hm18 => ?_)
              dsimp only [ugo, uwp, ust, uct, rfd, Bassigned, Bassigned_39, Nat.beq, lv_args, rlk, rs1, rs2, rdl, rky, rcd, rno, rsw, Value.category, List.filter, List.take, List.drop, List.reverse, List.reverseAux, List.cons_append, List.nil_append, Option.toList, Int.toNat, Int.reduceToNat, if_pos, if_neg, reduceIte, ↓reduceIte, Nat.reduceAdd, Nat.reduceEqDiff, Nat.reduceBEq, beq_self_eq_true, Bool.not_true, Bool.not_false, Bool.and_true, Bool.and_false, Bool.true_and, Bool.false_and, gI_sI, gI_sL, gI_sA, gI_sM, gL_sI, gL_sL, gL_sA, gL_sM, aI_sI, aI_sL, aI_sA, aI_sM, aL_sI, aL_sL, aL_sA, aL_sM]; try dsimp only
              intro p19
              refine ⟨fun h20 => ?_, fun h20 => ?_⟩
              · refine hB _ _ _ _ _ (fun m21 hm21 => ?_)
                dsimp only [ugo, uwp, ust, uct, rfd, Bassigned, Bassigned_59, Nat.beq, lv_args, rlk, rs1, rs2, rdl, rky, rcd, rno, rsw, Value.category, List.filter, List.take, List.drop, List.reverse, List.reverseAux, List.cons_append, List.nil_append, Option.toList, Int.toNat, Int.reduceToNat, if_pos, if_neg, reduceIte, ↓reduceIte, Nat.reduceAdd, Nat.reduceEqDiff, Nat.reduceBEq, beq_self_eq_true, Bool.not_true, Bool.not_false, Bool.and_true, Bool.and_false, Bool.true_and, Bool.false_and, gI_sI, gI_sL, gI_sA, gI_sM, gL_sI, gL_sL, gL_sA, gL_sM, aI_sI, aI_sL, aI_sA, aI_sM, aL_sI, aL_sL, aL_sA, aL_sM, oi_m1]; try dsimp only
                unfold Qv_assigned
                try dsimp only
                exact ⟨hjd2, _, rfl, Or.inr ⟨by assumption, Or.inl ⟨fun q => by obtain ⟨q1, q2, q3, q4, q5, q6⟩ := q; first | contradiction | exact absurd q3 (Int32.not_le.mpr (by assumption)) | exact absurd q4 (Int32.not_lt.mpr (by assumption)) | exact absurd q5 (Int32.not_lt.mpr (by assumption)), rfl⟩⟩⟩
              · refine hB _ _ _ _ _ (fun m22 hm22 => ?_)
                dsimp only [ugo, uwp, ust, uct, rfd, Bassigned, Bassigned_49, Nat.beq, lv_args, rlk, rs1, rs2, rdl, rky, rcd, rno, rsw, Value.category, List.filter, List.take, List.drop, List.reverse, List.reverseAux, List.cons_append, List.nil_append, Option.toList, Int.toNat, Int.reduceToNat, if_pos, if_neg, reduceIte, ↓reduceIte, Nat.reduceAdd, Nat.reduceEqDiff, Nat.reduceBEq, beq_self_eq_true, Bool.not_true, Bool.not_false, Bool.and_true, Bool.and_false, Bool.true_and, Bool.false_and, gI_sI, gI_sL, gI_sA, gI_sM, gL_sI, gL_sL, gL_sA, gL_sM, aI_sI, aI_sL, aI_sA, aI_sM, aL_sI, aL_sL, aL_sA, aL_sM]; try dsimp only
                intro p23
                refine ⟨fun h24 => ?_, fun h24 => ?_⟩
                · refine hB _ _ _ _ _ (fun m25 hm25 => ?_)
                  dsimp only [ugo, uwp, ust, uct, rfd, Bassigned, Bassigned_61, Nat.beq, lv_args, rlk, rs1, rs2, rdl, rky, rcd, rno, rsw, Value.category, List.filter, List.take, List.drop, List.reverse, List.reverseAux, List.cons_append, List.nil_append, Option.toList, Int.toNat, Int.reduceToNat, if_pos, if_neg, reduceIte, ↓reduceIte, Nat.reduceAdd, Nat.reduceEqDiff, Nat.reduceBEq, beq_self_eq_true, Bool.not_true, Bool.not_false, Bool.and_true, Bool.and_false, Bool.true_and, Bool.false_and, gI_sI, gI_sL, gI_sA, gI_sM, gL_sI, gL_sL, gL_sA, gL_sM, aI_sI, aI_sL, aI_sA, aI_sM, aL_sI, aL_sL, aL_sA, aL_sM]; try dsimp only
                  intro p26
                  refine ⟨fun h27 => ?_, fun h27 => ?_⟩
                  · have c27 : ¬ ((((aL τ2 110) (i).toNatClampNeg) >>> ((k).toInt64 &&& 63)) &&& (1 : Int64)) = (1 : Int64) := fun q => h27 ((cL (a := (1 : Int64)) (b := ((((aL τ2 110) (i).toNatClampNeg) >>> ((k).toInt64 &&& 63)) &&& (1 : Int64)))).1.mpr q)
                    refine hB _ _ _ _ _ (fun m28 hm28 => ?_)
                    dsimp only [ugo, uwp, ust, uct, rfd, Bassigned, Bassigned_80, Nat.beq, lv_args, rlk, rs1, rs2, rdl, rky, rcd, rno, rsw, Value.category, List.filter, List.take, List.drop, List.reverse, List.reverseAux, List.cons_append, List.nil_append, Option.toList, Int.toNat, Int.reduceToNat, if_pos, if_neg, reduceIte, ↓reduceIte, Nat.reduceAdd, Nat.reduceEqDiff, Nat.reduceBEq, beq_self_eq_true, Bool.not_true, Bool.not_false, Bool.and_true, Bool.and_false, Bool.true_and, Bool.false_and, gI_sI, gI_sL, gI_sA, gI_sM, gL_sI, gL_sL, gL_sA, gL_sM, aI_sI, aI_sL, aI_sA, aI_sM, aL_sI, aL_sL, aL_sA, aL_sM, oi_0]; try dsimp only
                    refine hB _ _ _ _ _ (fun m29 hm29 => ?_)
                    dsimp only [ugo, uwp, ust, uct, rfd, Bassigned, Bassigned_81, Nat.beq, lv_args, rlk, rs1, rs2, rdl, rky, rcd, rno, rsw, Value.category, List.filter, List.take, List.drop, List.reverse, List.reverseAux, List.cons_append, List.nil_append, Option.toList, Int.toNat, Int.reduceToNat, if_pos, if_neg, reduceIte, ↓reduceIte, Nat.reduceAdd, Nat.reduceEqDiff, Nat.reduceBEq, beq_self_eq_true, Bool.not_true, Bool.not_false, Bool.and_true, Bool.and_false, Bool.true_and, Bool.false_and, gI_sI, gI_sL, gI_sA, gI_sM, gL_sI, gL_sL, gL_sA, gL_sM, aI_sI, aI_sL, aI_sA, aI_sM, aL_sI, aL_sL, aL_sA, aL_sM]; try dsimp only
                    unfold Qv_assigned
                    try dsimp only
                    exact ⟨hjd2, _, rfl, Or.inr ⟨by assumption, Or.inr ⟨⟨by assumption, by assumption, by first | assumption | exact Int32.not_lt.mp (by assumption), by first | assumption | exact Int32.not_le.mp (by assumption), by first | assumption | exact Int32.not_le.mp (by assumption), by assumption⟩, Or.inr ⟨by assumption, rfl⟩⟩⟩⟩
                  · have c27 : ((((aL τ2 110) (i).toNatClampNeg) >>> ((k).toInt64 &&& 63)) &&& (1 : Int64)) = (1 : Int64) := (cL (a := (1 : Int64)) (b := ((((aL τ2 110) (i).toNatClampNeg) >>> ((k).toInt64 &&& 63)) &&& (1 : Int64)))).1.mp h27
                    refine hB _ _ _ _ _ (fun m30 hm30 => ?_)
                    dsimp only [ugo, uwp, ust, uct, rfd, Bassigned, Bassigned_76, Nat.beq, lv_args, rlk, rs1, rs2, rdl, rky, rcd, rno, rsw, Value.category, List.filter, List.take, List.drop, List.reverse, List.reverseAux, List.cons_append, List.nil_append, Option.toList, Int.toNat, Int.reduceToNat, if_pos, if_neg, reduceIte, ↓reduceIte, Nat.reduceAdd, Nat.reduceEqDiff, Nat.reduceBEq, beq_self_eq_true, Bool.not_true, Bool.not_false, Bool.and_true, Bool.and_false, Bool.true_and, Bool.false_and, gI_sI, gI_sL, gI_sA, gI_sM, gL_sI, gL_sL, gL_sA, gL_sM, aI_sI, aI_sL, aI_sA, aI_sM, aL_sI, aL_sL, aL_sA, aL_sM, oi_1]; try dsimp only
                    refine hB _ _ _ _ _ (fun m31 hm31 => ?_)
                    dsimp only [ugo, uwp, ust, uct, rfd, Bassigned, Bassigned_81, Nat.beq, lv_args, rlk, rs1, rs2, rdl, rky, rcd, rno, rsw, Value.category, List.filter, List.take, List.drop, List.reverse, List.reverseAux, List.cons_append, List.nil_append, Option.toList, Int.toNat, Int.reduceToNat, if_pos, if_neg, reduceIte, ↓reduceIte, Nat.reduceAdd, Nat.reduceEqDiff, Nat.reduceBEq, beq_self_eq_true, Bool.not_true, Bool.not_false, Bool.and_true, Bool.and_false, Bool.true_and, Bool.false_and, gI_sI, gI_sL, gI_sA, gI_sM, gL_sI, gL_sL, gL_sA, gL_sM, aI_sI, aI_sL, aI_sA, aI_sM, aL_sI, aL_sL, aL_sA, aL_sM]; try dsimp only
                    unfold Qv_assigned
                    try dsimp only
                    exact ⟨hjd2, _, rfl, Or.inr ⟨by assumption, Or.inr ⟨⟨by assumption, by assumption, by first | assumption | exact Int32.not_lt.mp (by assumption), by first | assumption | exact Int32.not_le.mp (by assumption), by first | assumption | exact Int32.not_le.mp (by assumption), by assumption⟩, Or.inl ⟨by assumption, rfl⟩⟩⟩⟩
                · refine hB _ _ _ _ _ (fun m32 hm32 => ?_)
                  dsimp only [ugo, uwp, ust, uct, rfd, Bassigned, Bassigned_59, Nat.beq, lv_args, rlk, rs1, rs2, rdl, rky, rcd, rno, rsw, Value.category, List.filter, List.take, List.drop, List.reverse, List.reverseAux, List.cons_append, List.nil_append, Option.toList, Int.toNat, Int.reduceToNat, if_pos, if_neg, reduceIte, ↓reduceIte, Nat.reduceAdd, Nat.reduceEqDiff, Nat.reduceBEq, beq_self_eq_true, Bool.not_true, Bool.not_false, Bool.and_true, Bool.and_false, Bool.true_and, Bool.false_and, gI_sI, gI_sL, gI_sA, gI_sM, gL_sI, gL_sL, gL_sA, gL_sM, aI_sI, aI_sL, aI_sA, aI_sM, aL_sI, aL_sL, aL_sA, aL_sM, oi_m1]; try dsimp only
                  unfold Qv_assigned
                  try dsimp only
                  exact ⟨hjd2, _, rfl, Or.inr ⟨by assumption, Or.inl ⟨fun q => by obtain ⟨q1, q2, q3, q4, q5, q6⟩ := q; first | contradiction | exact absurd q3 (Int32.not_le.mpr (by assumption)) | exact absurd q4 (Int32.not_lt.mpr (by assumption)) | exact absurd q5 (Int32.not_lt.mpr (by assumption)), rfl⟩⟩⟩
    · have c3 : ¬ (gI τ2 66 = 0) := fun q => (hb2).mpr q h3
      refine hB _ _ _ _ _ (fun m33 hm33 => ?_)
      dsimp only [ugo, uwp, ust, uct, rfd, Bassigned, Bassigned_7, Nat.beq, lv_args, rlk, rs1, rs2, rdl, rky, rcd, rno, rsw, Value.category, List.filter, List.take, List.drop, List.reverse, List.reverseAux, List.cons_append, List.nil_append, Option.toList, Int.toNat, Int.reduceToNat, if_pos, if_neg, reduceIte, ↓reduceIte, Nat.reduceAdd, Nat.reduceEqDiff, Nat.reduceBEq, beq_self_eq_true, Bool.not_true, Bool.not_false, Bool.and_true, Bool.and_false, Bool.true_and, Bool.false_and, gI_sI, gI_sL, gI_sA, gI_sM, gL_sI, gL_sL, gL_sA, gL_sM, aI_sI, aI_sL, aI_sA, aI_sM, aL_sI, aL_sL, aL_sA, aL_sM, oi_m2]; try dsimp only
      unfold Qv_assigned
      try dsimp only
      exact ⟨hjd2, _, rfl, Or.inl ⟨by assumption, rfl⟩⟩
  next => exact hP.elim
theorem w_assigned : UMet 138 (fun _ _ => True) Qw_assigned := fun A1 σ _ w τ h hP => v_assigned A1 σ hP w τ h
def Pv_means : UP1 := fun A1 σ => match A1 with
  | [.int i] => True
  | _ => False
def Qv_means : UQ1 := fun A1 σ w τ => match A1 with
  | [.int i] => ∃ r : Int32, w = some (.int r) ∧ ((¬ (tokR σ i ∧ aI σ 3 i.toNatClampNeg = 1) ∧ r = -1 ∧ τ = σ) ∨ ((tokR σ i ∧ aI σ 3 i.toNatClampNeg = 1) ∧ JdR σ τ ∧ ((gI τ 66 = 0 ∧ r = aI τ 80 i.toNatClampNeg) ∨ (¬ gI τ 66 = 0 ∧ r = -2))))
  | _ => False
def Qw_means : UQ1 := fun A1 σ w τ => Pv_means A1 σ → Qv_means A1 σ w τ
set_option maxRecDepth 100000 in
set_option maxHeartbeats 4000000 in
theorem v_means : UMet 133 (Pv_means) (Qv_means) := by
  refine UMet.by Bmeans [(125, (fun _ _ => True), Qw_isGood), (129, (fun _ _ => True), Qw_isToken)] rfl (ucc w_isGood (ucc w_isToken uc0)) ?_
  intro A1 σ hP K hB hW
  unfold Pv_means at hP
  split at hP
  next i =>
    intro n0
    refine hB _ _ _ _ _ (fun m1 hm1 => ?_)
    dsimp only [ugo, uwp, ust, uct, rfd, Bmeans, Bmeans_0, Nat.beq, lv_args, rlk, rs1, rs2, rdl, rky, rcd, rno, rsw, Value.category, List.filter, List.take, List.drop, List.reverse, List.reverseAux, List.cons_append, List.nil_append, Option.toList, Int.toNat, Int.reduceToNat, if_pos, if_neg, reduceIte, ↓reduceIte, Nat.reduceAdd, Nat.reduceEqDiff, Nat.reduceBEq, beq_self_eq_true, Bool.not_true, Bool.not_false, Bool.and_true, Bool.and_false, Bool.true_and, Bool.false_and, gI_sI, gI_sL, gI_sA, gI_sM, gL_sI, gL_sL, gL_sA, gL_sM, aI_sI, aI_sL, aI_sA, aI_sM, aL_sI, aL_sL, aL_sA, aL_sM]; try dsimp only
    refine ⟨trivial, fun w2 τ2 hq2 => ?_⟩
    obtain ⟨rfl, b2, rfl, hb2⟩ := hq2 trivial
    dsimp only [Option.toList, List.cons_append, List.nil_append, Nat.beq, gI_sI, gI_sL, gI_sA, gI_sM, gL_sI, gL_sL, gL_sA, gL_sM, aI_sI, aI_sL, aI_sA, aI_sM, aL_sI, aL_sL, aL_sA, aL_sM]
    refine ⟨fun h3 => ?_, fun h3 => ?_⟩
    · have c3 : ¬ (tokR σ i) := fun q => (hb2).mpr q h3
      refine hB _ _ _ _ _ (fun m4 hm4 => ?_)
      dsimp only [ugo, uwp, ust, uct, rfd, Bmeans, Bmeans_18, Nat.beq, lv_args, rlk, rs1, rs2, rdl, rky, rcd, rno, rsw, Value.category, List.filter, List.take, List.drop, List.reverse, List.reverseAux, List.cons_append, List.nil_append, Option.toList, Int.toNat, Int.reduceToNat, if_pos, if_neg, reduceIte, ↓reduceIte, Nat.reduceAdd, Nat.reduceEqDiff, Nat.reduceBEq, beq_self_eq_true, Bool.not_true, Bool.not_false, Bool.and_true, Bool.and_false, Bool.true_and, Bool.false_and, gI_sI, gI_sL, gI_sA, gI_sM, gL_sI, gL_sL, gL_sA, gL_sM, aI_sI, aI_sL, aI_sA, aI_sM, aL_sI, aL_sL, aL_sA, aL_sM, oi_m1]; try dsimp only
      unfold Qv_means
      try dsimp only
      exact ⟨_, rfl, Or.inl ⟨fun q => by obtain ⟨q1, q2⟩ := q; contradiction, rfl, rfl⟩⟩
    · have c3 : tokR σ i := (hb2).mp h3
      refine hB _ _ _ _ _ (fun m5 hm5 => ?_)
      dsimp only [ugo, uwp, ust, uct, rfd, Bmeans, Bmeans_8, Nat.beq, lv_args, rlk, rs1, rs2, rdl, rky, rcd, rno, rsw, Value.category, List.filter, List.take, List.drop, List.reverse, List.reverseAux, List.cons_append, List.nil_append, Option.toList, Int.toNat, Int.reduceToNat, if_pos, if_neg, reduceIte, ↓reduceIte, Nat.reduceAdd, Nat.reduceEqDiff, Nat.reduceBEq, beq_self_eq_true, Bool.not_true, Bool.not_false, Bool.and_true, Bool.and_false, Bool.true_and, Bool.false_and, gI_sI, gI_sL, gI_sA, gI_sM, gL_sI, gL_sL, gL_sA, gL_sM, aI_sI, aI_sL, aI_sA, aI_sM, aL_sI, aL_sL, aL_sA, aL_sM, oi_1]; try dsimp only
      intro p6
      refine ⟨fun h7 => ?_, fun h7 => ?_⟩
      · refine hB _ _ _ _ _ (fun m8 hm8 => ?_)
        dsimp only [ugo, uwp, ust, uct, rfd, Bmeans, Bmeans_20, Nat.beq, lv_args, rlk, rs1, rs2, rdl, rky, rcd, rno, rsw, Value.category, List.filter, List.take, List.drop, List.reverse, List.reverseAux, List.cons_append, List.nil_append, Option.toList, Int.toNat, Int.reduceToNat, if_pos, if_neg, reduceIte, ↓reduceIte, Nat.reduceAdd, Nat.reduceEqDiff, Nat.reduceBEq, beq_self_eq_true, Bool.not_true, Bool.not_false, Bool.and_true, Bool.and_false, Bool.true_and, Bool.false_and, gI_sI, gI_sL, gI_sA, gI_sM, gL_sI, gL_sL, gL_sA, gL_sM, aI_sI, aI_sL, aI_sA, aI_sM, aL_sI, aL_sL, aL_sA, aL_sM]; try dsimp only
        refine ⟨trivial, fun w9 τ9 hq9 => ?_⟩
        obtain ⟨hjd9, b9, rfl, hb9⟩ := hq9 trivial
        dsimp only [Option.toList, List.cons_append, List.nil_append, Nat.beq, gI_sI, gI_sL, gI_sA, gI_sM, gL_sI, gL_sL, gL_sA, gL_sM, aI_sI, aI_sL, aI_sA, aI_sM, aL_sI, aL_sL, aL_sA, aL_sM]
        refine ⟨fun h10 => ?_, fun h10 => ?_⟩
        · have c10 : ¬ (gI τ9 66 = 0) := fun q => (hb9).mpr q h10
          refine hB _ _ _ _ _ (fun m11 hm11 => ?_)
          dsimp only [ugo, uwp, ust, uct, rfd, Bmeans, Bmeans_36, Nat.beq, lv_args, rlk, rs1, rs2, rdl, rky, rcd, rno, rsw, Value.category, List.filter, List.take, List.drop, List.reverse, List.reverseAux, List.cons_append, List.nil_append, Option.toList, Int.toNat, Int.reduceToNat, if_pos, if_neg, reduceIte, ↓reduceIte, Nat.reduceAdd, Nat.reduceEqDiff, Nat.reduceBEq, beq_self_eq_true, Bool.not_true, Bool.not_false, Bool.and_true, Bool.and_false, Bool.true_and, Bool.false_and, gI_sI, gI_sL, gI_sA, gI_sM, gL_sI, gL_sL, gL_sA, gL_sM, aI_sI, aI_sL, aI_sA, aI_sM, aL_sI, aL_sL, aL_sA, aL_sM, oi_m2]; try dsimp only
          refine hB _ _ _ _ _ (fun m12 hm12 => ?_)
          dsimp only [ugo, uwp, ust, uct, rfd, Bmeans, Bmeans_38, Nat.beq, lv_args, rlk, rs1, rs2, rdl, rky, rcd, rno, rsw, Value.category, List.filter, List.take, List.drop, List.reverse, List.reverseAux, List.cons_append, List.nil_append, Option.toList, Int.toNat, Int.reduceToNat, if_pos, if_neg, reduceIte, ↓reduceIte, Nat.reduceAdd, Nat.reduceEqDiff, Nat.reduceBEq, beq_self_eq_true, Bool.not_true, Bool.not_false, Bool.and_true, Bool.and_false, Bool.true_and, Bool.false_and, gI_sI, gI_sL, gI_sA, gI_sM, gL_sI, gL_sL, gL_sA, gL_sM, aI_sI, aI_sL, aI_sA, aI_sM, aL_sI, aL_sL, aL_sA, aL_sM]; try dsimp only
          unfold Qv_means
          try dsimp only
          exact ⟨_, rfl, Or.inr ⟨⟨by assumption, by assumption⟩, hjd9, Or.inr ⟨by assumption, rfl⟩⟩⟩
        · have c10 : gI τ9 66 = 0 := (hb9).mp h10
          refine hB _ _ _ _ _ (fun m13 hm13 => ?_)
          dsimp only [ugo, uwp, ust, uct, rfd, Bmeans, Bmeans_27, Nat.beq, lv_args, rlk, rs1, rs2, rdl, rky, rcd, rno, rsw, Value.category, List.filter, List.take, List.drop, List.reverse, List.reverseAux, List.cons_append, List.nil_append, Option.toList, Int.toNat, Int.reduceToNat, if_pos, if_neg, reduceIte, ↓reduceIte, Nat.reduceAdd, Nat.reduceEqDiff, Nat.reduceBEq, beq_self_eq_true, Bool.not_true, Bool.not_false, Bool.and_true, Bool.and_false, Bool.true_and, Bool.false_and, gI_sI, gI_sL, gI_sA, gI_sM, gL_sI, gL_sL, gL_sA, gL_sM, aI_sI, aI_sL, aI_sA, aI_sM, aL_sI, aL_sL, aL_sA, aL_sM]; try dsimp only
          intro p14
          refine hB _ _ _ _ _ (fun m15 hm15 => ?_)
          dsimp only [ugo, uwp, ust, uct, rfd, Bmeans, Bmeans_38, Nat.beq, lv_args, rlk, rs1, rs2, rdl, rky, rcd, rno, rsw, Value.category, List.filter, List.take, List.drop, List.reverse, List.reverseAux, List.cons_append, List.nil_append, Option.toList, Int.toNat, Int.reduceToNat, if_pos, if_neg, reduceIte, ↓reduceIte, Nat.reduceAdd, Nat.reduceEqDiff, Nat.reduceBEq, beq_self_eq_true, Bool.not_true, Bool.not_false, Bool.and_true, Bool.and_false, Bool.true_and, Bool.false_and, gI_sI, gI_sL, gI_sA, gI_sM, gL_sI, gL_sL, gL_sA, gL_sM, aI_sI, aI_sL, aI_sA, aI_sM, aL_sI, aL_sL, aL_sA, aL_sM]; try dsimp only
          unfold Qv_means
          try dsimp only
          exact ⟨_, rfl, Or.inr ⟨⟨by assumption, by assumption⟩, hjd9, Or.inl ⟨by assumption, rfl⟩⟩⟩
      · refine hB _ _ _ _ _ (fun m16 hm16 => ?_)
        dsimp only [ugo, uwp, ust, uct, rfd, Bmeans, Bmeans_18, Nat.beq, lv_args, rlk, rs1, rs2, rdl, rky, rcd, rno, rsw, Value.category, List.filter, List.take, List.drop, List.reverse, List.reverseAux, List.cons_append, List.nil_append, Option.toList, Int.toNat, Int.reduceToNat, if_pos, if_neg, reduceIte, ↓reduceIte, Nat.reduceAdd, Nat.reduceEqDiff, Nat.reduceBEq, beq_self_eq_true, Bool.not_true, Bool.not_false, Bool.and_true, Bool.and_false, Bool.true_and, Bool.false_and, gI_sI, gI_sL, gI_sA, gI_sM, gL_sI, gL_sL, gL_sA, gL_sM, aI_sI, aI_sL, aI_sA, aI_sM, aL_sI, aL_sL, aL_sA, aL_sM, oi_m1]; try dsimp only
        unfold Qv_means
        try dsimp only
        exact ⟨_, rfl, Or.inl ⟨fun q => by obtain ⟨q1, q2⟩ := q; contradiction, rfl, rfl⟩⟩
  next => exact hP.elim
theorem w_means : UMet 133 (fun _ _ => True) Qw_means := fun A1 σ _ w τ h hP => v_means A1 σ hP w τ h
