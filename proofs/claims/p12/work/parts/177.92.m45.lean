theorem sM_sM {σ : RS} {k : Nat} {f g : Nat → Int64} : sM (sM σ k f) k g = sM σ k g := Prod.ext rfl (Prod.ext rfl (Prod.ext rfl (funext fun j => by by_cases h : j = k <;> simp [sM, h, nb_eq, nb_ne])))
theorem sL_sL {σ : RS} {k : Nat} {u v : Int64} : sL (sL σ k u) k v = sL σ k v := Prod.ext rfl (Prod.ext (funext fun j => by by_cases h : j = k <;> simp [sL, h, nb_eq, nb_ne]) rfl)
theorem sL_id {σ : RS} {k : Nat} : sL σ k (gL σ k) = σ := Prod.ext rfl (Prod.ext (funext fun j => by by_cases h : j = k <;> simp [sL, gL, h, nb_eq, nb_ne]) rfl)
theorem sM_id {σ : RS} {k : Nat} : sM σ k (aL σ k) = σ := Prod.ext rfl (Prod.ext rfl (Prod.ext rfl (funext fun j => by by_cases h : j = k <;> simp [sM, aL, h, nb_eq, nb_ne])))
theorem cmn {σ : RS} {x y : Int32} {f g : Nat → Int32} : sA (sI (sA (sI σ 116 x) 104 f) 116 y) 104 g = sA (sI σ 116 y) 104 g := by
  have e : sI (sA (sI σ 116 x) 104 f) 116 y = sA (sI (sI σ 116 x) 116 y) 104 f := rfl
  rw [e, sA_sA, sI_sI]
theorem edn {σ : RS} {f f' : Nat → Int32} {g g' : Nat → Int64} : sM (sA (sM (sA σ 107 f) 108 g) 107 f') 108 g' = sM (sA σ 107 f') 108 g' := by
  have e : sA (sM (sA σ 107 f) 108 g) 107 f' = sM (sA (sA σ 107 f) 107 f') 108 g := rfl
  rw [e, sM_sM, sA_sA]
theorem sdn {σ : RS} {u v x : Int64} : sL (sL (sL σ 93 u) 94 v) 93 x = sL (sL σ 93 x) 94 v := by
  have e : sL (sL (sL σ 93 u) 94 v) 93 x = sL (sL (sL σ 93 u) 93 x) 94 v := Prod.ext rfl (Prod.ext (funext fun j => by
    by_cases h : j = 93
    · subst h; rfl
    · by_cases h2 : j = 94
      · subst h2; rfl
      · simp [sL, nb_ne h, nb_ne h2]) rfl)
  rw [e, sL_sL]
def P_start : RP := fun As σ => match As with
  | [.int m] => PJ σ ∧ 0 ≤ m
  | _ => False
def Q_start : RQ := fun As σ w τ => match As with
  | [.int m] => w = none ∧ ∃ v : Int64, τ = sL (sL (sI σ 92 1) 93 v) 94 v
  | _ => False
set_option maxRecDepth 100000 in
set_option maxHeartbeats 4000000 in
theorem b_start : Bod Bstart [(112, P_be, Q_be)] P_start Q_start := by
  · intro As σ hP G hB hW
    unfold P_start at hP
    split at hP
    next m => 
      unfold Q_start at hB
      dsimp only at hB
      obtain ⟨hPJ, hm⟩ := hP
      have n42 := hPJ.v
      have n36 := hPJ.m
      have loop : ∀ k : Nat, ∀ (b : Int64) (v : Int32), (4000 - v.toInt).toNat = k → (0 ≤ v ∧ v ≤ 60) → G 10 [(0, .ref 1000), (1, .int m), (2, .long b), (4, .int v)] [] (sI σ 92 1) := by
        intro k
        induction k using Nat.strongRecOn with
        | ind k loop =>
          intro b v hk hv
          apply hB
          dsimp only [rgo, rfd, Bstart, Nat.beq, rwp, rst, lv_args, rlk, rs1, rs2, rdl, rky, rct, rcs, rcd, rno, rsw, Value.category, List.filter, List.take, List.drop, List.reverse, List.reverseAux, List.cons_append, List.nil_append, Option.toList, Int.toNat, Int.reduceToNat, if_pos, if_neg, reduceIte, ↓reduceIte, Nat.reduceAdd, Nat.reduceEqDiff, Nat.reduceBEq, beq_self_eq_true, Bool.not_true, Bool.not_false, Bool.and_true, Bool.and_false, Bool.true_and, Bool.false_and, gI_sI, gI_sL, gI_sA, gI_sM, gL_sI, gL_sL, gL_sA, gL_sM, aI_sI, aI_sL, aI_sA, aI_sM, aL_sI, aL_sL, aL_sA, aL_sM, Bstart_0, Bstart_10, Bstart_19, Bstart_27, Bstart_38, Bstart_56, Bstart_63, Bstart_69, oi_0, oi_1, P_be]; try dsimp only
          refine ⟨rfl, fun h1 => ?_, fun h1 => ?_⟩
          · apply hB
            dsimp only [rgo, rfd, Bstart, Nat.beq, rwp, rst, lv_args, rlk, rs1, rs2, rdl, rky, rct, rcs, rcd, rno, rsw, Value.category, List.filter, List.take, List.drop, List.reverse, List.reverseAux, List.cons_append, List.nil_append, Option.toList, Int.toNat, Int.reduceToNat, if_pos, if_neg, reduceIte, ↓reduceIte, Nat.reduceAdd, Nat.reduceEqDiff, Nat.reduceBEq, beq_self_eq_true, Bool.not_true, Bool.not_false, Bool.and_true, Bool.and_false, Bool.true_and, Bool.false_and, gI_sI, gI_sL, gI_sA, gI_sM, gL_sI, gL_sL, gL_sA, gL_sM, aI_sI, aI_sL, aI_sA, aI_sM, aL_sI, aL_sL, aL_sA, aL_sM, Bstart_0, Bstart_10, Bstart_19, Bstart_27, Bstart_38, Bstart_56, Bstart_63, Bstart_69, oi_0, oi_1, P_be]; try dsimp only
            refine ⟨rfl, (by decide), (trivial), fun w2 τ2 hq2 => ?_⟩
            obtain ⟨rfl, rfl⟩ := hq2
            dsimp only [Option.toList, List.cons_append, List.nil_append, Nat.beq, gI_sI, gI_sL, gI_sA, gI_sM, gL_sI, gL_sL, gL_sA, gL_sM, aI_sI, aI_sL, aI_sA, aI_sM, aL_sI, aL_sL, aL_sA, aL_sM]
            exact ⟨rfl, _, rfl⟩
          · apply hB
            dsimp only [rgo, rfd, Bstart, Nat.beq, rwp, rst, lv_args, rlk, rs1, rs2, rdl, rky, rct, rcs, rcd, rno, rsw, Value.category, List.filter, List.take, List.drop, List.reverse, List.reverseAux, List.cons_append, List.nil_append, Option.toList, Int.toNat, Int.reduceToNat, if_pos, if_neg, reduceIte, ↓reduceIte, Nat.reduceAdd, Nat.reduceEqDiff, Nat.reduceBEq, beq_self_eq_true, Bool.not_true, Bool.not_false, Bool.and_true, Bool.and_false, Bool.true_and, Bool.false_and, gI_sI, gI_sL, gI_sA, gI_sM, gL_sI, gL_sL, gL_sA, gL_sM, aI_sI, aI_sL, aI_sA, aI_sM, aL_sI, aL_sL, aL_sA, aL_sM, Bstart_0, Bstart_10, Bstart_19, Bstart_27, Bstart_38, Bstart_56, Bstart_63, Bstart_69, oi_0, oi_1, P_be]; try dsimp only
            refine ⟨rfl, fun h3 => ?_, fun h3 => ?_⟩
            · apply hB
              dsimp only [rgo, rfd, Bstart, Nat.beq, rwp, rst, lv_args, rlk, rs1, rs2, rdl, rky, rct, rcs, rcd, rno, rsw, Value.category, List.filter, List.take, List.drop, List.reverse, List.reverseAux, List.cons_append, List.nil_append, Option.toList, Int.toNat, Int.reduceToNat, if_pos, if_neg, reduceIte, ↓reduceIte, Nat.reduceAdd, Nat.reduceEqDiff, Nat.reduceBEq, beq_self_eq_true, Bool.not_true, Bool.not_false, Bool.and_true, Bool.and_false, Bool.true_and, Bool.false_and, gI_sI, gI_sL, gI_sA, gI_sM, gL_sI, gL_sL, gL_sA, gL_sM, aI_sI, aI_sL, aI_sA, aI_sM, aL_sI, aL_sL, aL_sA, aL_sM, Bstart_0, Bstart_10, Bstart_19, Bstart_27, Bstart_38, Bstart_56, Bstart_63, Bstart_69, oi_0, oi_1, P_be]; try dsimp only
              refine hW 10 [(0, .ref 1000), (1, .int m), (2, .long _), (4, .int (v + 1))] _ _ _ (by simp [rdl, rky]; try rfl) (loop _ ?_ _ (v + 1) rfl ⟨by lia, by lia⟩)
              exact mlt4 hk (by lia) (by lia)
            · apply hB
              dsimp only [rgo, rfd, Bstart, Nat.beq, rwp, rst, lv_args, rlk, rs1, rs2, rdl, rky, rct, rcs, rcd, rno, rsw, Value.category, List.filter, List.take, List.drop, List.reverse, List.reverseAux, List.cons_append, List.nil_append, Option.toList, Int.toNat, Int.reduceToNat, if_pos, if_neg, reduceIte, ↓reduceIte, Nat.reduceAdd, Nat.reduceEqDiff, Nat.reduceBEq, beq_self_eq_true, Bool.not_true, Bool.not_false, Bool.and_true, Bool.and_false, Bool.true_and, Bool.false_and, gI_sI, gI_sL, gI_sA, gI_sM, gL_sI, gL_sL, gL_sA, gL_sM, aI_sI, aI_sL, aI_sA, aI_sM, aL_sI, aL_sL, aL_sA, aL_sM, Bstart_0, Bstart_10, Bstart_19, Bstart_27, Bstart_38, Bstart_56, Bstart_63, Bstart_69, oi_0, oi_1, P_be]; try dsimp only
              refine ⟨rfl, rfl, (in_46 (by lia) (by lia)), fun h4 => ?_, fun h4 => ?_⟩
              · apply hB
                dsimp only [rgo, rfd, Bstart, Nat.beq, rwp, rst, lv_args, rlk, rs1, rs2, rdl, rky, rct, rcs, rcd, rno, rsw, Value.category, List.filter, List.take, List.drop, List.reverse, List.reverseAux, List.cons_append, List.nil_append, Option.toList, Int.toNat, Int.reduceToNat, if_pos, if_neg, reduceIte, ↓reduceIte, Nat.reduceAdd, Nat.reduceEqDiff, Nat.reduceBEq, beq_self_eq_true, Bool.not_true, Bool.not_false, Bool.and_true, Bool.and_false, Bool.true_and, Bool.false_and, gI_sI, gI_sL, gI_sA, gI_sM, gL_sI, gL_sL, gL_sA, gL_sM, aI_sI, aI_sL, aI_sA, aI_sM, aL_sI, aL_sL, aL_sA, aL_sM, Bstart_0, Bstart_10, Bstart_19, Bstart_27, Bstart_38, Bstart_56, Bstart_63, Bstart_69, oi_0, oi_1, P_be]; try dsimp only
                refine hW 10 [(0, .ref 1000), (1, .int m), (2, .long _), (4, .int (v + 1))] _ _ _ (by simp [rdl, rky]; try rfl) (loop _ ?_ _ (v + 1) rfl ⟨by lia, by lia⟩)
                exact mlt4 hk (by lia) (by lia)
              · apply hB
                dsimp only [rgo, rfd, Bstart, Nat.beq, rwp, rst, lv_args, rlk, rs1, rs2, rdl, rky, rct, rcs, rcd, rno, rsw, Value.category, List.filter, List.take, List.drop, List.reverse, List.reverseAux, List.cons_append, List.nil_append, Option.toList, Int.toNat, Int.reduceToNat, if_pos, if_neg, reduceIte, ↓reduceIte, Nat.reduceAdd, Nat.reduceEqDiff, Nat.reduceBEq, beq_self_eq_true, Bool.not_true, Bool.not_false, Bool.and_true, Bool.and_false, Bool.true_and, Bool.false_and, gI_sI, gI_sL, gI_sA, gI_sM, gL_sI, gL_sL, gL_sA, gL_sM, aI_sI, aI_sL, aI_sA, aI_sM, aL_sI, aL_sL, aL_sA, aL_sM, Bstart_0, Bstart_10, Bstart_19, Bstart_27, Bstart_38, Bstart_56, Bstart_63, Bstart_69, oi_0, oi_1, P_be]; try dsimp only
                refine ⟨rfl, rfl, (in_40 (by lia) (by lia)), rfl, rfl, (in_39 (by lia) (by lia)), fun h5 => ?_, fun h5 => ?_⟩
                · apply hB
                  dsimp only [rgo, rfd, Bstart, Nat.beq, rwp, rst, lv_args, rlk, rs1, rs2, rdl, rky, rct, rcs, rcd, rno, rsw, Value.category, List.filter, List.take, List.drop, List.reverse, List.reverseAux, List.cons_append, List.nil_append, Option.toList, Int.toNat, Int.reduceToNat, if_pos, if_neg, reduceIte, ↓reduceIte, Nat.reduceAdd, Nat.reduceEqDiff, Nat.reduceBEq, beq_self_eq_true, Bool.not_true, Bool.not_false, Bool.and_true, Bool.and_false, Bool.true_and, Bool.false_and, gI_sI, gI_sL, gI_sA, gI_sM, gL_sI, gL_sL, gL_sA, gL_sM, aI_sI, aI_sL, aI_sA, aI_sM, aL_sI, aL_sL, aL_sA, aL_sM, Bstart_0, Bstart_10, Bstart_19, Bstart_27, Bstart_38, Bstart_56, Bstart_63, Bstart_69, oi_0, oi_1, P_be]; try dsimp only
                  refine hW 10 [(0, .ref 1000), (1, .int m), (2, .long _), (4, .int (v + 1))] _ _ _ (by simp [rdl, rky]; try rfl) (loop _ ?_ _ (v + 1) rfl ⟨by lia, by lia⟩)
                  exact mlt4 hk (by lia) (by lia)
                · apply hB
                  dsimp only [rgo, rfd, Bstart, Nat.beq, rwp, rst, lv_args, rlk, rs1, rs2, rdl, rky, rct, rcs, rcd, rno, rsw, Value.category, List.filter, List.take, List.drop, List.reverse, List.reverseAux, List.cons_append, List.nil_append, Option.toList, Int.toNat, Int.reduceToNat, if_pos, if_neg, reduceIte, ↓reduceIte, Nat.reduceAdd, Nat.reduceEqDiff, Nat.reduceBEq, beq_self_eq_true, Bool.not_true, Bool.not_false, Bool.and_true, Bool.and_false, Bool.true_and, Bool.false_and, gI_sI, gI_sL, gI_sA, gI_sM, gL_sI, gL_sL, gL_sA, gL_sM, aI_sI, aI_sL, aI_sA, aI_sM, aL_sI, aL_sL, aL_sA, aL_sM, Bstart_0, Bstart_10, Bstart_19, Bstart_27, Bstart_38, Bstart_56, Bstart_63, Bstart_69, oi_0, oi_1, P_be]; try dsimp only
                  intro v6 _
                  apply hB
                  dsimp only [rgo, rfd, Bstart, Nat.beq, rwp, rst, lv_args, rlk, rs1, rs2, rdl, rky, rct, rcs, rcd, rno, rsw, Value.category, List.filter, List.take, List.drop, List.reverse, List.reverseAux, List.cons_append, List.nil_append, Option.toList, Int.toNat, Int.reduceToNat, if_pos, if_neg, reduceIte, ↓reduceIte, Nat.reduceAdd, Nat.reduceEqDiff, Nat.reduceBEq, beq_self_eq_true, Bool.not_true, Bool.not_false, Bool.and_true, Bool.and_false, Bool.true_and, Bool.false_and, gI_sI, gI_sL, gI_sA, gI_sM, gL_sI, gL_sL, gL_sA, gL_sM, aI_sI, aI_sL, aI_sA, aI_sM, aL_sI, aL_sL, aL_sA, aL_sM, Bstart_0, Bstart_10, Bstart_19, Bstart_27, Bstart_38, Bstart_56, Bstart_63, Bstart_69, oi_0, oi_1, P_be]; try dsimp only
                  refine hW 10 [(0, .ref 1000), (1, .int m), (2, .long _), (4, .int (v + 1))] _ _ _ (by simp [rdl, rky]; try rfl) (loop _ ?_ _ (v + 1) rfl ⟨by lia, by lia⟩)
                  exact mlt4 hk (by lia) (by lia)
      apply hB
      dsimp only [rgo, rfd, Bstart, Nat.beq, rwp, rst, lv_args, rlk, rs1, rs2, rdl, rky, rct, rcs, rcd, rno, rsw, Value.category, List.filter, List.take, List.drop, List.reverse, List.reverseAux, List.cons_append, List.nil_append, Option.toList, Int.toNat, Int.reduceToNat, if_pos, if_neg, reduceIte, ↓reduceIte, Nat.reduceAdd, Nat.reduceEqDiff, Nat.reduceBEq, beq_self_eq_true, Bool.not_true, Bool.not_false, Bool.and_true, Bool.and_false, Bool.true_and, Bool.false_and, gI_sI, gI_sL, gI_sA, gI_sM, gL_sI, gL_sL, gL_sA, gL_sM, aI_sI, aI_sL, aI_sA, aI_sM, aL_sI, aL_sL, aL_sA, aL_sM, Bstart_0, Bstart_10, Bstart_19, Bstart_27, Bstart_38, Bstart_56, Bstart_63, Bstart_69, oi_0, oi_1, P_be]; try dsimp only
      refine ⟨rfl, Or.inr rfl, ?_⟩
      exact hW 10 [(0, .ref 1000), (1, .int m), (2, .long _), (4, .int 0)] _ _ _ (by simp [rdl, rky]; try rfl) (loop _ _ 0 rfl ⟨by decide, by decide⟩)
    next => exact hP.elim
theorem m_start (l : Launch) : RMet l 2 114 P_start Q_start := by
  refine RMet.by Bstart [(112, P_be, Q_be)] rostart okBstart (ctc (m_be l) (by decide) ct0) ?_ b_start
  · intro As σ hP
    unfold P_start at hP
    split at hP
    next => exact Nat.le_of_ble_eq_true rfl
    next => exact hP.elim
set_option maxRecDepth 100000 in
theorem e_start (l : Launch) : RMetE l 2 114 P_start Q_start := by
  refine RMetE.by Bstart [(112, P_be, Q_be)] rfl rfl rostart okBstart (ctEc (e_be l) (by decide) ctE0) ?_ b_start
  · intro As σ hP
    unfold P_start at hP
    split at hP
    next => exact Nat.le_of_ble_eq_true rfl
    next => exact hP.elim
def P_value : RP := fun As σ => match As with
  | [.int t, .int v] => 0 ≤ t ∧ t ≤ 2599
  | _ => False
def Q_value : RQ := fun As σ w τ => match As with
  | [.int t, .int v] => w = none ∧ ∃ a b : Int32, τ = sI (sI σ 114 a) 115 b
  | _ => False
set_option maxRecDepth 100000 in
set_option maxHeartbeats 4000000 in
theorem b_value : Bod Bvalue [(111, P_now, Q_now)] P_value Q_value := by
  · intro As σ hP G hB hW
    unfold P_value at hP
    split at hP
    next t v => 
      unfold Q_value at hB
      dsimp only at hB
      apply hB
      dsimp only [rgo, rfd, Bvalue, Nat.beq, rwp, rst, lv_args, rlk, rs1, rs2, rdl, rky, rct, rcs, rcd, rno, rsw, Value.category, List.filter, List.take, List.drop, List.reverse, List.reverseAux, List.cons_append, List.nil_append, Option.toList, Int.toNat, Int.reduceToNat, if_pos, if_neg, reduceIte, ↓reduceIte, Nat.reduceAdd, Nat.reduceEqDiff, Nat.reduceBEq, beq_self_eq_true, Bool.not_true, Bool.not_false, Bool.and_true, Bool.and_false, Bool.true_and, Bool.false_and, gI_sI, gI_sL, gI_sA, gI_sM, gL_sI, gL_sL, gL_sA, gL_sM, aI_sI, aI_sL, aI_sA, aI_sM, aL_sI, aL_sL, aL_sA, aL_sM, Bvalue_0, Bvalue_13, Bvalue_14, Bvalue_21, Bvalue_34, Bvalue_50, oi_15, P_now]; try dsimp only
      refine ⟨rfl, (by decide), (trivial), fun w1 τ1 hq1 => ?_⟩
      obtain ⟨r1, rfl, e1⟩ := hq1
      obtain rfl := e1.symm
      dsimp only [Option.toList, List.cons_append, List.nil_append, Nat.beq, gI_sI, gI_sL, gI_sA, gI_sM, gL_sI, gL_sL, gL_sA, gL_sM, aI_sI, aI_sL, aI_sA, aI_sM, aL_sI, aL_sL, aL_sA, aL_sM]
      intro v2 _
      refine ⟨fun h3 => ?_, fun h3 => ?_⟩
      · apply hB
        dsimp only [rgo, rfd, Bvalue, Nat.beq, rwp, rst, lv_args, rlk, rs1, rs2, rdl, rky, rct, rcs, rcd, rno, rsw, Value.category, List.filter, List.take, List.drop, List.reverse, List.reverseAux, List.cons_append, List.nil_append, Option.toList, Int.toNat, Int.reduceToNat, if_pos, if_neg, reduceIte, ↓reduceIte, Nat.reduceAdd, Nat.reduceEqDiff, Nat.reduceBEq, beq_self_eq_true, Bool.not_true, Bool.not_false, Bool.and_true, Bool.and_false, Bool.true_and, Bool.false_and, gI_sI, gI_sL, gI_sA, gI_sM, gL_sI, gL_sL, gL_sA, gL_sM, aI_sI, aI_sL, aI_sA, aI_sM, aL_sI, aL_sL, aL_sA, aL_sM, Bvalue_0, Bvalue_13, Bvalue_14, Bvalue_21, Bvalue_34, Bvalue_50, oi_15, P_now]; try dsimp only
        refine ⟨rfl, fun h4 => ?_, fun h4 => ?_⟩
        · apply hB
          dsimp only [rgo, rfd, Bvalue, Nat.beq, rwp, rst, lv_args, rlk, rs1, rs2, rdl, rky, rct, rcs, rcd, rno, rsw, Value.category, List.filter, List.take, List.drop, List.reverse, List.reverseAux, List.cons_append, List.nil_append, Option.toList, Int.toNat, Int.reduceToNat, if_pos, if_neg, reduceIte, ↓reduceIte, Nat.reduceAdd, Nat.reduceEqDiff, Nat.reduceBEq, beq_self_eq_true, Bool.not_true, Bool.not_false, Bool.and_true, Bool.and_false, Bool.true_and, Bool.false_and, gI_sI, gI_sL, gI_sA, gI_sM, gL_sI, gL_sL, gL_sA, gL_sM, aI_sI, aI_sL, aI_sA, aI_sM, aL_sI, aL_sL, aL_sA, aL_sM, Bvalue_0, Bvalue_13, Bvalue_14, Bvalue_21, Bvalue_34, Bvalue_50, oi_15, P_now]; try dsimp only
          refine ⟨rfl, rfl, rfl, (in_4 (by lia) (by lia)), rfl, ?_⟩
          apply hB
          dsimp only [rgo, rfd, Bvalue, Nat.beq, rwp, rst, lv_args, rlk, rs1, rs2, rdl, rky, rct, rcs, rcd, rno, rsw, Value.category, List.filter, List.take, List.drop, List.reverse, List.reverseAux, List.cons_append, List.nil_append, Option.toList, Int.toNat, Int.reduceToNat, if_pos, if_neg, reduceIte, ↓reduceIte, Nat.reduceAdd, Nat.reduceEqDiff, Nat.reduceBEq, beq_self_eq_true, Bool.not_true, Bool.not_false, Bool.and_true, Bool.and_false, Bool.true_and, Bool.false_and, gI_sI, gI_sL, gI_sA, gI_sM, gL_sI, gL_sL, gL_sA, gL_sM, aI_sI, aI_sL, aI_sA, aI_sM, aL_sI, aL_sL, aL_sA, aL_sM, Bvalue_0, Bvalue_13, Bvalue_14, Bvalue_21, Bvalue_34, Bvalue_50, oi_15, P_now]; try dsimp only
          exact ⟨rfl, _, _, rfl⟩
        · apply hB
          dsimp only [rgo, rfd, Bvalue, Nat.beq, rwp, rst, lv_args, rlk, rs1, rs2, rdl, rky, rct, rcs, rcd, rno, rsw, Value.category, List.filter, List.take, List.drop, List.reverse, List.reverseAux, List.cons_append, List.nil_append, Option.toList, Int.toNat, Int.reduceToNat, if_pos, if_neg, reduceIte, ↓reduceIte, Nat.reduceAdd, Nat.reduceEqDiff, Nat.reduceBEq, beq_self_eq_true, Bool.not_true, Bool.not_false, Bool.and_true, Bool.and_false, Bool.true_and, Bool.false_and, gI_sI, gI_sL, gI_sA, gI_sM, gL_sI, gL_sL, gL_sA, gL_sM, aI_sI, aI_sL, aI_sA, aI_sM, aL_sI, aL_sL, aL_sA, aL_sM, Bvalue_0, Bvalue_13, Bvalue_14, Bvalue_21, Bvalue_34, Bvalue_50, oi_15, P_now]; try dsimp only
          refine ⟨rfl, rfl, (in_4 (by lia) (by lia)), rfl, fun h5 => ?_, fun h5 => ?_⟩
          · apply hB
            dsimp only [rgo, rfd, Bvalue, Nat.beq, rwp, rst, lv_args, rlk, rs1, rs2, rdl, rky, rct, rcs, rcd, rno, rsw, Value.category, List.filter, List.take, List.drop, List.reverse, List.reverseAux, List.cons_append, List.nil_append, Option.toList, Int.toNat, Int.reduceToNat, if_pos, if_neg, reduceIte, ↓reduceIte, Nat.reduceAdd, Nat.reduceEqDiff, Nat.reduceBEq, beq_self_eq_true, Bool.not_true, Bool.not_false, Bool.and_true, Bool.and_false, Bool.true_and, Bool.false_and, gI_sI, gI_sL, gI_sA, gI_sM, gL_sI, gL_sL, gL_sA, gL_sM, aI_sI, aI_sL, aI_sA, aI_sM, aL_sI, aL_sL, aL_sA, aL_sM, Bvalue_0, Bvalue_13, Bvalue_14, Bvalue_21, Bvalue_34, Bvalue_50, oi_15, P_now]; try dsimp only
            exact ⟨rfl, gI σ 114, gI σ 115, by simp only [sI_id]⟩
          · apply hB
            dsimp only [rgo, rfd, Bvalue, Nat.beq, rwp, rst, lv_args, rlk, rs1, rs2, rdl, rky, rct, rcs, rcd, rno, rsw, Value.category, List.filter, List.take, List.drop, List.reverse, List.reverseAux, List.cons_append, List.nil_append, Option.toList, Int.toNat, Int.reduceToNat, if_pos, if_neg, reduceIte, ↓reduceIte, Nat.reduceAdd, Nat.reduceEqDiff, Nat.reduceBEq, beq_self_eq_true, Bool.not_true, Bool.not_false, Bool.and_true, Bool.and_false, Bool.true_and, Bool.false_and, gI_sI, gI_sL, gI_sA, gI_sM, gL_sI, gL_sL, gL_sA, gL_sM, aI_sI, aI_sL, aI_sA, aI_sM, aL_sI, aL_sL, aL_sA, aL_sM, Bvalue_0, Bvalue_13, Bvalue_14, Bvalue_21, Bvalue_34, Bvalue_50, oi_15, P_now]; try dsimp only
            refine ⟨rfl, rfl, rfl, (in_4 (by lia) (by lia)), rfl, ?_⟩
            apply hB
            dsimp only [rgo, rfd, Bvalue, Nat.beq, rwp, rst, lv_args, rlk, rs1, rs2, rdl, rky, rct, rcs, rcd, rno, rsw, Value.category, List.filter, List.take, List.drop, List.reverse, List.reverseAux, List.cons_append, List.nil_append, Option.toList, Int.toNat, Int.reduceToNat, if_pos, if_neg, reduceIte, ↓reduceIte, Nat.reduceAdd, Nat.reduceEqDiff, Nat.reduceBEq, beq_self_eq_true, Bool.not_true, Bool.not_false, Bool.and_true, Bool.and_false, Bool.true_and, Bool.false_and, gI_sI, gI_sL, gI_sA, gI_sM, gL_sI, gL_sL, gL_sA, gL_sM, aI_sI, aI_sL, aI_sA, aI_sM, aL_sI, aL_sL, aL_sA, aL_sM, Bvalue_0, Bvalue_13, Bvalue_14, Bvalue_21, Bvalue_34, Bvalue_50, oi_15, P_now]; try dsimp only
            exact ⟨rfl, _, _, rfl⟩
      · apply hB
        dsimp only [rgo, rfd, Bvalue, Nat.beq, rwp, rst, lv_args, rlk, rs1, rs2, rdl, rky, rct, rcs, rcd, rno, rsw, Value.category, List.filter, List.take, List.drop, List.reverse, List.reverseAux, List.cons_append, List.nil_append, Option.toList, Int.toNat, Int.reduceToNat, if_pos, if_neg, reduceIte, ↓reduceIte, Nat.reduceAdd, Nat.reduceEqDiff, Nat.reduceBEq, beq_self_eq_true, Bool.not_true, Bool.not_false, Bool.and_true, Bool.and_false, Bool.true_and, Bool.false_and, gI_sI, gI_sL, gI_sA, gI_sM, gL_sI, gL_sL, gL_sA, gL_sM, aI_sI, aI_sL, aI_sA, aI_sM, aL_sI, aL_sL, aL_sA, aL_sM, Bvalue_0, Bvalue_13, Bvalue_14, Bvalue_21, Bvalue_34, Bvalue_50, oi_15, P_now]; try dsimp only
        exact ⟨rfl, gI σ 114, gI σ 115, by simp only [sI_id]⟩
    next => exact hP.elim
theorem m_value (l : Launch) : RMet l 2 115 P_value Q_value := by
  refine RMet.by Bvalue [(111, P_now, Q_now)] rovalue okBvalue (ctc (m_now l) (by decide) ct0) ?_ b_value
  · intro As σ hP
    unfold P_value at hP
    split at hP
    next => exact Nat.le_of_ble_eq_true rfl
    next => exact hP.elim
set_option maxRecDepth 100000 in
theorem e_value (l : Launch) : RMetE l 2 115 P_value Q_value := by
  refine RMetE.by Bvalue [(111, P_now, Q_now)] rfl rfl rovalue okBvalue (ctEc (e_now l) (by decide) ctE0) ?_ b_value
  · intro As σ hP
    unfold P_value at hP
    split at hP
    next => exact Nat.le_of_ble_eq_true rfl
    next => exact hP.elim
def P_sided : RP := fun As σ => match As with
  | [.int c] => 0 ≤ c ∧ c < 4000
  | _ => False
def Q_sided : RQ := fun As σ w τ => match As with
  | [.int c] => w = none ∧ ∃ u v : Int64, τ = sL (sL σ 93 u) 94 v
  | _ => False
set_option maxRecDepth 100000 in
set_option maxHeartbeats 4000000 in
theorem b_sided : Bod Bsided [(112, P_be, Q_be), (111, P_now, Q_now)] P_sided Q_sided := by
  · intro As σ hP G hB hW
    unfold P_sided at hP
    split at hP
    next c => 
      unfold Q_sided at hB
      dsimp only at hB
      apply hB
      dsimp only [rgo, rfd, Bsided, Nat.beq, rwp, rst, lv_args, rlk, rs1, rs2, rdl, rky, rct, rcs, rcd, rno, rsw, Value.category, List.filter, List.take, List.drop, List.reverse, List.reverseAux, List.cons_append, List.nil_append, Option.toList, Int.toNat, Int.reduceToNat, if_pos, if_neg, reduceIte, ↓reduceIte, Nat.reduceAdd, Nat.reduceEqDiff, Nat.reduceBEq, beq_self_eq_true, Bool.not_true, Bool.not_false, Bool.and_true, Bool.and_false, Bool.true_and, Bool.false_and, gI_sI, gI_sL, gI_sA, gI_sM, gL_sI, gL_sL, gL_sA, gL_sM, aI_sI, aI_sL, aI_sA, aI_sM, aL_sI, aL_sL, aL_sA, aL_sM, Bsided_0, Bsided_19, Bsided_28, Bsided_29, Bsided_40, Bsided_50, Bsided_57, P_be, P_now]; try dsimp only
      refine ⟨rfl, (by decide), (trivial), fun w1 τ1 hq1 => ?_⟩
      obtain ⟨r1, rfl, e1⟩ := hq1
      obtain rfl := e1.symm
      dsimp only [Option.toList, List.cons_append, List.nil_append, Nat.beq, gI_sI, gI_sL, gI_sA, gI_sM, gL_sI, gL_sL, gL_sA, gL_sM, aI_sI, aI_sL, aI_sA, aI_sM, aL_sI, aL_sL, aL_sA, aL_sM]
      refine ⟨rfl, (by decide), (trivial), fun w2 τ2 hq2 => ?_⟩
      obtain ⟨rfl, rfl⟩ := hq2
      dsimp only [Option.toList, List.cons_append, List.nil_append, Nat.beq, gI_sI, gI_sL, gI_sA, gI_sM, gL_sI, gL_sL, gL_sA, gL_sM, aI_sI, aI_sL, aI_sA, aI_sM, aL_sI, aL_sL, aL_sA, aL_sM]
      refine ⟨rfl, rfl, (in_81 (by lia) (by lia)), fun h3 => ?_, fun h3 => ?_⟩
      · apply hB
        dsimp only [rgo, rfd, Bsided, Nat.beq, rwp, rst, lv_args, rlk, rs1, rs2, rdl, rky, rct, rcs, rcd, rno, rsw, Value.category, List.filter, List.take, List.drop, List.reverse, List.reverseAux, List.cons_append, List.nil_append, Option.toList, Int.toNat, Int.reduceToNat, if_pos, if_neg, reduceIte, ↓reduceIte, Nat.reduceAdd, Nat.reduceEqDiff, Nat.reduceBEq, beq_self_eq_true, Bool.not_true, Bool.not_false, Bool.and_true, Bool.and_false, Bool.true_and, Bool.false_and, gI_sI, gI_sL, gI_sA, gI_sM, gL_sI, gL_sL, gL_sA, gL_sM, aI_sI, aI_sL, aI_sA, aI_sM, aL_sI, aL_sL, aL_sA, aL_sM, Bsided_0, Bsided_19, Bsided_28, Bsided_29, Bsided_40, Bsided_50, Bsided_57, P_be, P_now]; try dsimp only
        exact ⟨rfl, _, _, rfl⟩
      · apply hB
        dsimp only [rgo, rfd, Bsided, Nat.beq, rwp, rst, lv_args, rlk, rs1, rs2, rdl, rky, rct, rcs, rcd, rno, rsw, Value.category, List.filter, List.take, List.drop, List.reverse, List.reverseAux, List.cons_append, List.nil_append, Option.toList, Int.toNat, Int.reduceToNat, if_pos, if_neg, reduceIte, ↓reduceIte, Nat.reduceAdd, Nat.reduceEqDiff, Nat.reduceBEq, beq_self_eq_true, Bool.not_true, Bool.not_false, Bool.and_true, Bool.and_false, Bool.true_and, Bool.false_and, gI_sI, gI_sL, gI_sA, gI_sM, gL_sI, gL_sL, gL_sA, gL_sM, aI_sI, aI_sL, aI_sA, aI_sM, aL_sI, aL_sL, aL_sA, aL_sM, Bsided_0, Bsided_19, Bsided_28, Bsided_29, Bsided_40, Bsided_50, Bsided_57, P_be, P_now]; try dsimp only
        refine ⟨rfl, rfl, (in_84 (by lia) (by lia)), fun h4 => ?_, fun h4 => ?_⟩
        · apply hB
          dsimp only [rgo, rfd, Bsided, Nat.beq, rwp, rst, lv_args, rlk, rs1, rs2, rdl, rky, rct, rcs, rcd, rno, rsw, Value.category, List.filter, List.take, List.drop, List.reverse, List.reverseAux, List.cons_append, List.nil_append, Option.toList, Int.toNat, Int.reduceToNat, if_pos, if_neg, reduceIte, ↓reduceIte, Nat.reduceAdd, Nat.reduceEqDiff, Nat.reduceBEq, beq_self_eq_true, Bool.not_true, Bool.not_false, Bool.and_true, Bool.and_false, Bool.true_and, Bool.false_and, gI_sI, gI_sL, gI_sA, gI_sM, gL_sI, gL_sL, gL_sA, gL_sM, aI_sI, aI_sL, aI_sA, aI_sM, aL_sI, aL_sL, aL_sA, aL_sM, Bsided_0, Bsided_19, Bsided_28, Bsided_29, Bsided_40, Bsided_50, Bsided_57, P_be, P_now]; try dsimp only
          refine ⟨rfl, rfl, (in_85 (by lia) (by lia)), fun h5 => ?_, fun h5 => ?_⟩
          · apply hB
            dsimp only [rgo, rfd, Bsided, Nat.beq, rwp, rst, lv_args, rlk, rs1, rs2, rdl, rky, rct, rcs, rcd, rno, rsw, Value.category, List.filter, List.take, List.drop, List.reverse, List.reverseAux, List.cons_append, List.nil_append, Option.toList, Int.toNat, Int.reduceToNat, if_pos, if_neg, reduceIte, ↓reduceIte, Nat.reduceAdd, Nat.reduceEqDiff, Nat.reduceBEq, beq_self_eq_true, Bool.not_true, Bool.not_false, Bool.and_true, Bool.and_false, Bool.true_and, Bool.false_and, gI_sI, gI_sL, gI_sA, gI_sM, gL_sI, gL_sL, gL_sA, gL_sM, aI_sI, aI_sL, aI_sA, aI_sM, aL_sI, aL_sL, aL_sA, aL_sM, Bsided_0, Bsided_19, Bsided_28, Bsided_29, Bsided_40, Bsided_50, Bsided_57, P_be, P_now]; try dsimp only
            refine ⟨rfl, ?_⟩
            apply hB
            dsimp only [rgo, rfd, Bsided, Nat.beq, rwp, rst, lv_args, rlk, rs1, rs2, rdl, rky, rct, rcs, rcd, rno, rsw, Value.category, List.filter, List.take, List.drop, List.reverse, List.reverseAux, List.cons_append, List.nil_append, Option.toList, Int.toNat, Int.reduceToNat, if_pos, if_neg, reduceIte, ↓reduceIte, Nat.reduceAdd, Nat.reduceEqDiff, Nat.reduceBEq, beq_self_eq_true, Bool.not_true, Bool.not_false, Bool.and_true, Bool.and_false, Bool.true_and, Bool.false_and, gI_sI, gI_sL, gI_sA, gI_sM, gL_sI, gL_sL, gL_sA, gL_sM, aI_sI, aI_sL, aI_sA, aI_sM, aL_sI, aL_sL, aL_sA, aL_sM, Bsided_0, Bsided_19, Bsided_28, Bsided_29, Bsided_40, Bsided_50, Bsided_57, P_be, P_now]; try dsimp only
            exact ⟨rfl, _, _, sdn⟩
          · apply hB
            dsimp only [rgo, rfd, Bsided, Nat.beq, rwp, rst, lv_args, rlk, rs1, rs2, rdl, rky, rct, rcs, rcd, rno, rsw, Value.category, List.filter, List.take, List.drop, List.reverse, List.reverseAux, List.cons_append, List.nil_append, Option.toList, Int.toNat, Int.reduceToNat, if_pos, if_neg, reduceIte, ↓reduceIte, Nat.reduceAdd, Nat.reduceEqDiff, Nat.reduceBEq, beq_self_eq_true, Bool.not_true, Bool.not_false, Bool.and_true, Bool.and_false, Bool.true_and, Bool.false_and, gI_sI, gI_sL, gI_sA, gI_sM, gL_sI, gL_sL, gL_sA, gL_sM, aI_sI, aI_sL, aI_sA, aI_sM, aL_sI, aL_sL, aL_sA, aL_sM, Bsided_0, Bsided_19, Bsided_28, Bsided_29, Bsided_40, Bsided_50, Bsided_57, P_be, P_now]; try dsimp only
            refine ⟨rfl, ?_⟩
            apply hB
            dsimp only [rgo, rfd, Bsided, Nat.beq, rwp, rst, lv_args, rlk, rs1, rs2, rdl, rky, rct, rcs, rcd, rno, rsw, Value.category, List.filter, List.take, List.drop, List.reverse, List.reverseAux, List.cons_append, List.nil_append, Option.toList, Int.toNat, Int.reduceToNat, if_pos, if_neg, reduceIte, ↓reduceIte, Nat.reduceAdd, Nat.reduceEqDiff, Nat.reduceBEq, beq_self_eq_true, Bool.not_true, Bool.not_false, Bool.and_true, Bool.and_false, Bool.true_and, Bool.false_and, gI_sI, gI_sL, gI_sA, gI_sM, gL_sI, gL_sL, gL_sA, gL_sM, aI_sI, aI_sL, aI_sA, aI_sM, aL_sI, aL_sL, aL_sA, aL_sM, Bsided_0, Bsided_19, Bsided_28, Bsided_29, Bsided_40, Bsided_50, Bsided_57, P_be, P_now]; try dsimp only
            exact ⟨rfl, _, _, sL_sL⟩
        · apply hB
          dsimp only [rgo, rfd, Bsided, Nat.beq, rwp, rst, lv_args, rlk, rs1, rs2, rdl, rky, rct, rcs, rcd, rno, rsw, Value.category, List.filter, List.take, List.drop, List.reverse, List.reverseAux, List.cons_append, List.nil_append, Option.toList, Int.toNat, Int.reduceToNat, if_pos, if_neg, reduceIte, ↓reduceIte, Nat.reduceAdd, Nat.reduceEqDiff, Nat.reduceBEq, beq_self_eq_true, Bool.not_true, Bool.not_false, Bool.and_true, Bool.and_false, Bool.true_and, Bool.false_and, gI_sI, gI_sL, gI_sA, gI_sM, gL_sI, gL_sL, gL_sA, gL_sM, aI_sI, aI_sL, aI_sA, aI_sM, aL_sI, aL_sL, aL_sA, aL_sM, Bsided_0, Bsided_19, Bsided_28, Bsided_29, Bsided_40, Bsided_50, Bsided_57, P_be, P_now]; try dsimp only
          exact ⟨rfl, _, _, rfl⟩
    next => exact hP.elim
theorem m_sided (l : Launch) : RMet l 2 116 P_sided Q_sided := by
  refine RMet.by Bsided [(112, P_be, Q_be), (111, P_now, Q_now)] rosided okBsided (ctc (m_be l) (by decide) (ctc (m_now l) (by decide) ct0)) ?_ b_sided
  · intro As σ hP
    unfold P_sided at hP
    split at hP
    next => exact Nat.le_of_ble_eq_true rfl
    next => exact hP.elim
set_option maxRecDepth 100000 in
theorem e_sided (l : Launch) : RMetE l 2 116 P_sided Q_sided := by
  refine RMetE.by Bsided [(112, P_be, Q_be), (111, P_now, Q_now)] rfl rfl rosided okBsided (ctEc (e_be l) (by decide) (ctEc (e_now l) (by decide) ctE0)) ?_ b_sided
  · intro As σ hP
    unfold P_sided at hP
    split at hP
    next => exact Nat.le_of_ble_eq_true rfl
    next => exact hP.elim
def P_dead : RP := fun As σ => match As with
  | [] => True
  | _ => False
def Q_dead : RQ := fun As σ w τ => match As with
  | [] => w = none ∧ ∃ v : Int64, τ = sL (sL (sI σ 92 0) 93 v) 94 v
  | _ => False
set_option maxRecDepth 100000 in
set_option maxHeartbeats 4000000 in
theorem b_dead : Bod Bdead [(112, P_be, Q_be)] P_dead Q_dead := by
  · intro As σ hP G hB hW
    unfold P_dead at hP
    split at hP
    next => 
      unfold Q_dead at hB
      dsimp only at hB
      apply hB
      dsimp only [rgo, rfd, Bdead, Nat.beq, rwp, rst, lv_args, rlk, rs1, rs2, rdl, rky, rct, rcs, rcd, rno, rsw, Value.category, List.filter, List.take, List.drop, List.reverse, List.reverseAux, List.cons_append, List.nil_append, Option.toList, Int.toNat, Int.reduceToNat, if_pos, if_neg, reduceIte, ↓reduceIte, Nat.reduceAdd, Nat.reduceEqDiff, Nat.reduceBEq, beq_self_eq_true, Bool.not_true, Bool.not_false, Bool.and_true, Bool.and_false, Bool.true_and, Bool.false_and, gI_sI, gI_sL, gI_sA, gI_sM, gL_sI, gL_sL, gL_sA, gL_sM, aI_sI, aI_sL, aI_sA, aI_sM, aL_sI, aL_sL, aL_sA, aL_sM, Bdead_0, oi_0, P_be]; try dsimp only
      refine ⟨rfl, Or.inl rfl, rfl, (by decide), (trivial), fun w1 τ1 hq1 => ?_⟩
      obtain ⟨rfl, rfl⟩ := hq1
      dsimp only [Option.toList, List.cons_append, List.nil_append, Nat.beq, gI_sI, gI_sL, gI_sA, gI_sM, gL_sI, gL_sL, gL_sA, gL_sM, aI_sI, aI_sL, aI_sA, aI_sM, aL_sI, aL_sL, aL_sA, aL_sM]
      exact ⟨rfl, _, rfl⟩
    next => exact hP.elim
theorem m_dead (l : Launch) : RMet l 2 120 P_dead Q_dead := by
  refine RMet.by Bdead [(112, P_be, Q_be)] rodead okBdead (ctc (m_be l) (by decide) ct0) ?_ b_dead
  · intro As σ hP
    unfold P_dead at hP
    split at hP
    next => exact Nat.le_of_ble_eq_true rfl
    next => exact hP.elim
set_option maxRecDepth 100000 in
theorem e_dead (l : Launch) : RMetE l 2 120 P_dead Q_dead := by
  refine RMetE.by Bdead [(112, P_be, Q_be)] rfl rfl rodead okBdead (ctEc (e_be l) (by decide) ctE0) ?_ b_dead
  · intro As σ hP
    unfold P_dead at hP
    split at hP
    next => exact Nat.le_of_ble_eq_true rfl
    next => exact hP.elim
def P_come : RP := fun As σ => match As with
  | [.int k, .int on] => 0 ≤ (gI σ 103) ∧ (gI σ 103) ≤ 600
  | _ => False
def Q_come : RQ := fun As σ w τ => match As with
  | [.int k, .int on] => ∃ (r : Int64) (x : Int32) (f : Nat → Int32), w = some (.long r) ∧ τ = sA (sI σ 116 x) 104 f
  | _ => False
set_option maxRecDepth 100000 in
set_option maxHeartbeats 4000000 in
theorem b_come : Bod Bcome [] P_come Q_come := by
  · intro As σ hP G hB hW
    unfold P_come at hP
    split at hP
    next k on => 
      unfold Q_come at hB
      dsimp only at hB
      have loop : ∀ n : Nat, ∀ (b : Int64) (j x : Int32) (f : Nat → Int32), (4000 - j.toInt).toNat = n → (0 ≤ j ∧ j ≤ 600) → G 12 [(0, .ref 1000), (1, .int k), (2, .int on), (3, .long b), (5, .int j)] [] (sA (sI σ 116 x) 104 f) := by
        intro n
        induction n using Nat.strongRecOn with
        | ind n loop =>
          intro b j x f hk hj
          apply hB
          dsimp only [rgo, rfd, Bcome, Nat.beq, rwp, rst, lv_args, rlk, rs1, rs2, rdl, rky, rct, rcs, rcd, rno, rsw, Value.category, List.filter, List.take, List.drop, List.reverse, List.reverseAux, List.cons_append, List.nil_append, Option.toList, Int.toNat, Int.reduceToNat, if_pos, if_neg, reduceIte, ↓reduceIte, Nat.reduceAdd, Nat.reduceEqDiff, Nat.reduceBEq, beq_self_eq_true, Bool.not_true, Bool.not_false, Bool.and_true, Bool.and_false, Bool.true_and, Bool.false_and, gI_sI, gI_sL, gI_sA, gI_sM, gL_sI, gL_sL, gL_sA, gL_sM, aI_sI, aI_sL, aI_sA, aI_sM, aL_sI, aL_sL, aL_sA, aL_sM, Bcome_0, Bcome_12, Bcome_21, Bcome_32, Bcome_43, Bcome_46, Bcome_64, Bcome_74, Bcome_78, Bcome_79, Bcome_91, Bcome_97, oi_0, oi_1, oi_m5]; try dsimp only
          refine ⟨rfl, fun h1 => ?_, fun h1 => ?_⟩
          · apply hB
            dsimp only [rgo, rfd, Bcome, Nat.beq, rwp, rst, lv_args, rlk, rs1, rs2, rdl, rky, rct, rcs, rcd, rno, rsw, Value.category, List.filter, List.take, List.drop, List.reverse, List.reverseAux, List.cons_append, List.nil_append, Option.toList, Int.toNat, Int.reduceToNat, if_pos, if_neg, reduceIte, ↓reduceIte, Nat.reduceAdd, Nat.reduceEqDiff, Nat.reduceBEq, beq_self_eq_true, Bool.not_true, Bool.not_false, Bool.and_true, Bool.and_false, Bool.true_and, Bool.false_and, gI_sI, gI_sL, gI_sA, gI_sM, gL_sI, gL_sL, gL_sA, gL_sM, aI_sI, aI_sL, aI_sA, aI_sM, aL_sI, aL_sL, aL_sA, aL_sM, Bcome_0, Bcome_12, Bcome_21, Bcome_32, Bcome_43, Bcome_46, Bcome_64, Bcome_74, Bcome_78, Bcome_79, Bcome_91, Bcome_97, oi_0, oi_1, oi_m5]; try dsimp only
            exact ⟨_, _, _, rfl, rfl⟩
          · apply hB
            dsimp only [rgo, rfd, Bcome, Nat.beq, rwp, rst, lv_args, rlk, rs1, rs2, rdl, rky, rct, rcs, rcd, rno, rsw, Value.category, List.filter, List.take, List.drop, List.reverse, List.reverseAux, List.cons_append, List.nil_append, Option.toList, Int.toNat, Int.reduceToNat, if_pos, if_neg, reduceIte, ↓reduceIte, Nat.reduceAdd, Nat.reduceEqDiff, Nat.reduceBEq, beq_self_eq_true, Bool.not_true, Bool.not_false, Bool.and_true, Bool.and_false, Bool.true_and, Bool.false_and, gI_sI, gI_sL, gI_sA, gI_sM, gL_sI, gL_sL, gL_sA, gL_sM, aI_sI, aI_sL, aI_sA, aI_sM, aL_sI, aL_sL, aL_sA, aL_sM, Bcome_0, Bcome_12, Bcome_21, Bcome_32, Bcome_43, Bcome_46, Bcome_64, Bcome_74, Bcome_78, Bcome_79, Bcome_91, Bcome_97, oi_0, oi_1, oi_m5]; try dsimp only
            refine ⟨rfl, rfl, (in_104 (by lia) (by lia)), fun h2 => ?_, fun h2 => ?_⟩
            · apply hB
              dsimp only [rgo, rfd, Bcome, Nat.beq, rwp, rst, lv_args, rlk, rs1, rs2, rdl, rky, rct, rcs, rcd, rno, rsw, Value.category, List.filter, List.take, List.drop, List.reverse, List.reverseAux, List.cons_append, List.nil_append, Option.toList, Int.toNat, Int.reduceToNat, if_pos, if_neg, reduceIte, ↓reduceIte, Nat.reduceAdd, Nat.reduceEqDiff, Nat.reduceBEq, beq_self_eq_true, Bool.not_true, Bool.not_false, Bool.and_true, Bool.and_false, Bool.true_and, Bool.false_and, gI_sI, gI_sL, gI_sA, gI_sM, gL_sI, gL_sL, gL_sA, gL_sM, aI_sI, aI_sL, aI_sA, aI_sM, aL_sI, aL_sL, aL_sA, aL_sM, Bcome_0, Bcome_12, Bcome_21, Bcome_32, Bcome_43, Bcome_46, Bcome_64, Bcome_74, Bcome_78, Bcome_79, Bcome_91, Bcome_97, oi_0, oi_1, oi_m5]; try dsimp only
              refine hW 12 [(0, .ref 1000), (1, .int k), (2, .int on), (3, .long b), (5, .int (j + 1))] _ _ _ (by simp [rdl, rky]) (loop _ ?_ b (j + 1) x f rfl ⟨by lia, by lia⟩)
              exact mlt4 hk (by lia) (by lia)
            · apply hB
              dsimp only [rgo, rfd, Bcome, Nat.beq, rwp, rst, lv_args, rlk, rs1, rs2, rdl, rky, rct, rcs, rcd, rno, rsw, Value.category, List.filter, List.take, List.drop, List.reverse, List.reverseAux, List.cons_append, List.nil_append, Option.toList, Int.toNat, Int.reduceToNat, if_pos, if_neg, reduceIte, ↓reduceIte, Nat.reduceAdd, Nat.reduceEqDiff, Nat.reduceBEq, beq_self_eq_true, Bool.not_true, Bool.not_false, Bool.and_true, Bool.and_false, Bool.true_and, Bool.false_and, gI_sI, gI_sL, gI_sA, gI_sM, gL_sI, gL_sL, gL_sA, gL_sM, aI_sI, aI_sL, aI_sA, aI_sM, aL_sI, aL_sL, aL_sA, aL_sM, Bcome_0, Bcome_12, Bcome_21, Bcome_32, Bcome_43, Bcome_46, Bcome_64, Bcome_74, Bcome_78, Bcome_79, Bcome_91, Bcome_97, oi_0, oi_1, oi_m5]; try dsimp only
              refine ⟨rfl, rfl, (in_105 (by lia) (by lia)), fun h3 => ?_, fun h3 => ?_⟩
              · apply hB
                dsimp only [rgo, rfd, Bcome, Nat.beq, rwp, rst, lv_args, rlk, rs1, rs2, rdl, rky, rct, rcs, rcd, rno, rsw, Value.category, List.filter, List.take, List.drop, List.reverse, List.reverseAux, List.cons_append, List.nil_append, Option.toList, Int.toNat, Int.reduceToNat, if_pos, if_neg, reduceIte, ↓reduceIte, Nat.reduceAdd, Nat.reduceEqDiff, Nat.reduceBEq, beq_self_eq_true, Bool.not_true, Bool.not_false, Bool.and_true, Bool.and_false, Bool.true_and, Bool.false_and, gI_sI, gI_sL, gI_sA, gI_sM, gL_sI, gL_sL, gL_sA, gL_sM, aI_sI, aI_sL, aI_sA, aI_sM, aL_sI, aL_sL, aL_sA, aL_sM, Bcome_0, Bcome_12, Bcome_21, Bcome_32, Bcome_43, Bcome_46, Bcome_64, Bcome_74, Bcome_78, Bcome_79, Bcome_91, Bcome_97, oi_0, oi_1, oi_m5]; try dsimp only
                refine ⟨rfl, rfl, (in_108 (by lia) (by lia)), rfl, fun h4 => ?_, fun h4 => ?_⟩
                · apply hB
                  dsimp only [rgo, rfd, Bcome, Nat.beq, rwp, rst, lv_args, rlk, rs1, rs2, rdl, rky, rct, rcs, rcd, rno, rsw, Value.category, List.filter, List.take, List.drop, List.reverse, List.reverseAux, List.cons_append, List.nil_append, Option.toList, Int.toNat, Int.reduceToNat, if_pos, if_neg, reduceIte, ↓reduceIte, Nat.reduceAdd, Nat.reduceEqDiff, Nat.reduceBEq, beq_self_eq_true, Bool.not_true, Bool.not_false, Bool.and_true, Bool.and_false, Bool.true_and, Bool.false_and, gI_sI, gI_sL, gI_sA, gI_sM, gL_sI, gL_sL, gL_sA, gL_sM, aI_sI, aI_sL, aI_sA, aI_sM, aL_sI, aL_sL, aL_sA, aL_sM, Bcome_0, Bcome_12, Bcome_21, Bcome_32, Bcome_43, Bcome_46, Bcome_64, Bcome_74, Bcome_78, Bcome_79, Bcome_91, Bcome_97, oi_0, oi_1, oi_m5]; try dsimp only
                  apply hB
                  dsimp only [rgo, rfd, Bcome, Nat.beq, rwp, rst, lv_args, rlk, rs1, rs2, rdl, rky, rct, rcs, rcd, rno, rsw, Value.category, List.filter, List.take, List.drop, List.reverse, List.reverseAux, List.cons_append, List.nil_append, Option.toList, Int.toNat, Int.reduceToNat, if_pos, if_neg, reduceIte, ↓reduceIte, Nat.reduceAdd, Nat.reduceEqDiff, Nat.reduceBEq, beq_self_eq_true, Bool.not_true, Bool.not_false, Bool.and_true, Bool.and_false, Bool.true_and, Bool.false_and, gI_sI, gI_sL, gI_sA, gI_sM, gL_sI, gL_sL, gL_sA, gL_sM, aI_sI, aI_sL, aI_sA, aI_sM, aL_sI, aL_sL, aL_sA, aL_sM, Bcome_0, Bcome_12, Bcome_21, Bcome_32, Bcome_43, Bcome_46, Bcome_64, Bcome_74, Bcome_78, Bcome_79, Bcome_91, Bcome_97, oi_0, oi_1, oi_m5]; try dsimp only
                  refine ⟨rfl, Or.inr rfl, rfl, rfl, (in_104 (by lia) (by lia)), ?_⟩
                  apply hB
                  dsimp only [rgo, rfd, Bcome, Nat.beq, rwp, rst, lv_args, rlk, rs1, rs2, rdl, rky, rct, rcs, rcd, rno, rsw, Value.category, List.filter, List.take, List.drop, List.reverse, List.reverseAux, List.cons_append, List.nil_append, Option.toList, Int.toNat, Int.reduceToNat, if_pos, if_neg, reduceIte, ↓reduceIte, Nat.reduceAdd, Nat.reduceEqDiff, Nat.reduceBEq, beq_self_eq_true, Bool.not_true, Bool.not_false, Bool.and_true, Bool.and_false, Bool.true_and, Bool.false_and, gI_sI, gI_sL, gI_sA, gI_sM, gL_sI, gL_sL, gL_sA, gL_sM, aI_sI, aI_sL, aI_sA, aI_sM, aL_sI, aL_sL, aL_sA, aL_sM, Bcome_0, Bcome_12, Bcome_21, Bcome_32, Bcome_43, Bcome_46, Bcome_64, Bcome_74, Bcome_78, Bcome_79, Bcome_91, Bcome_97, oi_0, oi_1, oi_m5]; try dsimp only
                  rw [cmn]
                  refine hW 12 [(0, .ref 1000), (1, .int k), (2, .int on), (3, .long _), (5, .int (j + 1))] _ _ _ (by simp [rdl, rky]; try rfl) (loop _ ?_ _ (j + 1) _ _ rfl ⟨by lia, by lia⟩)
                  exact mlt4 hk (by lia) (by lia)
                · apply hB
                  dsimp only [rgo, rfd, Bcome, Nat.beq, rwp, rst, lv_args, rlk, rs1, rs2, rdl, rky, rct, rcs, rcd, rno, rsw, Value.category, List.filter, List.take, List.drop, List.reverse, List.reverseAux, List.cons_append, List.nil_append, Option.toList, Int.toNat, Int.reduceToNat, if_pos, if_neg, reduceIte, ↓reduceIte, Nat.reduceAdd, Nat.reduceEqDiff, Nat.reduceBEq, beq_self_eq_true, Bool.not_true, Bool.not_false, Bool.and_true, Bool.and_false, Bool.true_and, Bool.false_and, gI_sI, gI_sL, gI_sA, gI_sM, gL_sI, gL_sL, gL_sA, gL_sM, aI_sI, aI_sL, aI_sA, aI_sM, aL_sI, aL_sL, aL_sA, aL_sM, Bcome_0, Bcome_12, Bcome_21, Bcome_32, Bcome_43, Bcome_46, Bcome_64, Bcome_74, Bcome_78, Bcome_79, Bcome_91, Bcome_97, oi_0, oi_1, oi_m5]; try dsimp only
                  refine ⟨rfl, rfl, (in_107 (by lia) (by lia)), fun h5 => ?_, fun h5 => ?_⟩
                  · apply hB
                    dsimp only [rgo, rfd, Bcome, Nat.beq, rwp, rst, lv_args, rlk, rs1, rs2, rdl, rky, rct, rcs, rcd, rno, rsw, Value.category, List.filter, List.take, List.drop, List.reverse, List.reverseAux, List.cons_append, List.nil_append, Option.toList, Int.toNat, Int.reduceToNat, if_pos, if_neg, reduceIte, ↓reduceIte, Nat.reduceAdd, Nat.reduceEqDiff, Nat.reduceBEq, beq_self_eq_true, Bool.not_true, Bool.not_false, Bool.and_true, Bool.and_false, Bool.true_and, Bool.false_and, gI_sI, gI_sL, gI_sA, gI_sM, gL_sI, gL_sL, gL_sA, gL_sM, aI_sI, aI_sL, aI_sA, aI_sM, aL_sI, aL_sL, aL_sA, aL_sM, Bcome_0, Bcome_12, Bcome_21, Bcome_32, Bcome_43, Bcome_46, Bcome_64, Bcome_74, Bcome_78, Bcome_79, Bcome_91, Bcome_97, oi_0, oi_1, oi_m5]; try dsimp only
                    apply hB
                    dsimp only [rgo, rfd, Bcome, Nat.beq, rwp, rst, lv_args, rlk, rs1, rs2, rdl, rky, rct, rcs, rcd, rno, rsw, Value.category, List.filter, List.take, List.drop, List.reverse, List.reverseAux, List.cons_append, List.nil_append, Option.toList, Int.toNat, Int.reduceToNat, if_pos, if_neg, reduceIte, ↓reduceIte, Nat.reduceAdd, Nat.reduceEqDiff, Nat.reduceBEq, beq_self_eq_true, Bool.not_true, Bool.not_false, Bool.and_true, Bool.and_false, Bool.true_and, Bool.false_and, gI_sI, gI_sL, gI_sA, gI_sM, gL_sI, gL_sL, gL_sA, gL_sM, aI_sI, aI_sL, aI_sA, aI_sM, aL_sI, aL_sL, aL_sA, aL_sM, Bcome_0, Bcome_12, Bcome_21, Bcome_32, Bcome_43, Bcome_46, Bcome_64, Bcome_74, Bcome_78, Bcome_79, Bcome_91, Bcome_97, oi_0, oi_1, oi_m5]; try dsimp only
                    refine ⟨rfl, Or.inl rfl, rfl, rfl, (in_104 (by lia) (by lia)), ?_⟩
                    apply hB
                    dsimp only [rgo, rfd, Bcome, Nat.beq, rwp, rst, lv_args, rlk, rs1, rs2, rdl, rky, rct, rcs, rcd, rno, rsw, Value.category, List.filter, List.take, List.drop, List.reverse, List.reverseAux, List.cons_append, List.nil_append, Option.toList, Int.toNat, Int.reduceToNat, if_pos, if_neg, reduceIte, ↓reduceIte, Nat.reduceAdd, Nat.reduceEqDiff, Nat.reduceBEq, beq_self_eq_true, Bool.not_true, Bool.not_false, Bool.and_true, Bool.and_false, Bool.true_and, Bool.false_and, gI_sI, gI_sL, gI_sA, gI_sM, gL_sI, gL_sL, gL_sA, gL_sM, aI_sI, aI_sL, aI_sA, aI_sM, aL_sI, aL_sL, aL_sA, aL_sM, Bcome_0, Bcome_12, Bcome_21, Bcome_32, Bcome_43, Bcome_46, Bcome_64, Bcome_74, Bcome_78, Bcome_79, Bcome_91, Bcome_97, oi_0, oi_1, oi_m5]; try dsimp only
                    rw [cmn]
                    refine hW 12 [(0, .ref 1000), (1, .int k), (2, .int on), (3, .long _), (5, .int (j + 1))] _ _ _ (by simp [rdl, rky]; try rfl) (loop _ ?_ _ (j + 1) _ _ rfl ⟨by lia, by lia⟩)
                    exact mlt4 hk (by lia) (by lia)
                  · apply hB
                    dsimp only [rgo, rfd, Bcome, Nat.beq, rwp, rst, lv_args, rlk, rs1, rs2, rdl, rky, rct, rcs, rcd, rno, rsw, Value.category, List.filter, List.take, List.drop, List.reverse, List.reverseAux, List.cons_append, List.nil_append, Option.toList, Int.toNat, Int.reduceToNat, if_pos, if_neg, reduceIte, ↓reduceIte, Nat.reduceAdd, Nat.reduceEqDiff, Nat.reduceBEq, beq_self_eq_true, Bool.not_true, Bool.not_false, Bool.and_true, Bool.and_false, Bool.true_and, Bool.false_and, gI_sI, gI_sL, gI_sA, gI_sM, gL_sI, gL_sL, gL_sA, gL_sM, aI_sI, aI_sL, aI_sA, aI_sM, aL_sI, aL_sL, aL_sA, aL_sM, Bcome_0, Bcome_12, Bcome_21, Bcome_32, Bcome_43, Bcome_46, Bcome_64, Bcome_74, Bcome_78, Bcome_79, Bcome_91, Bcome_97, oi_0, oi_1, oi_m5]; try dsimp only
                    apply hB
                    dsimp only [rgo, rfd, Bcome, Nat.beq, rwp, rst, lv_args, rlk, rs1, rs2, rdl, rky, rct, rcs, rcd, rno, rsw, Value.category, List.filter, List.take, List.drop, List.reverse, List.reverseAux, List.cons_append, List.nil_append, Option.toList, Int.toNat, Int.reduceToNat, if_pos, if_neg, reduceIte, ↓reduceIte, Nat.reduceAdd, Nat.reduceEqDiff, Nat.reduceBEq, beq_self_eq_true, Bool.not_true, Bool.not_false, Bool.and_true, Bool.and_false, Bool.true_and, Bool.false_and, gI_sI, gI_sL, gI_sA, gI_sM, gL_sI, gL_sL, gL_sA, gL_sM, aI_sI, aI_sL, aI_sA, aI_sM, aL_sI, aL_sL, aL_sA, aL_sM, Bcome_0, Bcome_12, Bcome_21, Bcome_32, Bcome_43, Bcome_46, Bcome_64, Bcome_74, Bcome_78, Bcome_79, Bcome_91, Bcome_97, oi_0, oi_1, oi_m5]; try dsimp only
                    refine ⟨rfl, Or.inr rfl, rfl, rfl, (in_104 (by lia) (by lia)), ?_⟩
                    apply hB
                    dsimp only [rgo, rfd, Bcome, Nat.beq, rwp, rst, lv_args, rlk, rs1, rs2, rdl, rky, rct, rcs, rcd, rno, rsw, Value.category, List.filter, List.take, List.drop, List.reverse, List.reverseAux, List.cons_append, List.nil_append, Option.toList, Int.toNat, Int.reduceToNat, if_pos, if_neg, reduceIte, ↓reduceIte, Nat.reduceAdd, Nat.reduceEqDiff, Nat.reduceBEq, beq_self_eq_true, Bool.not_true, Bool.not_false, Bool.and_true, Bool.and_false, Bool.true_and, Bool.false_and, gI_sI, gI_sL, gI_sA, gI_sM, gL_sI, gL_sL, gL_sA, gL_sM, aI_sI, aI_sL, aI_sA, aI_sM, aL_sI, aL_sL, aL_sA, aL_sM, Bcome_0, Bcome_12, Bcome_21, Bcome_32, Bcome_43, Bcome_46, Bcome_64, Bcome_74, Bcome_78, Bcome_79, Bcome_91, Bcome_97, oi_0, oi_1, oi_m5]; try dsimp only
                    rw [cmn]
                    refine hW 12 [(0, .ref 1000), (1, .int k), (2, .int on), (3, .long _), (5, .int (j + 1))] _ _ _ (by simp [rdl, rky]; try rfl) (loop _ ?_ _ (j + 1) _ _ rfl ⟨by lia, by lia⟩)
                    exact mlt4 hk (by lia) (by lia)
              · apply hB
                dsimp only [rgo, rfd, Bcome, Nat.beq, rwp, rst, lv_args, rlk, rs1, rs2, rdl, rky, rct, rcs, rcd, rno, rsw, Value.category, List.filter, List.take, List.drop, List.reverse, List.reverseAux, List.cons_append, List.nil_append, Option.toList, Int.toNat, Int.reduceToNat, if_pos, if_neg, reduceIte, ↓reduceIte, Nat.reduceAdd, Nat.reduceEqDiff, Nat.reduceBEq, beq_self_eq_true, Bool.not_true, Bool.not_false, Bool.and_true, Bool.and_false, Bool.true_and, Bool.false_and, gI_sI, gI_sL, gI_sA, gI_sM, gL_sI, gL_sL, gL_sA, gL_sM, aI_sI, aI_sL, aI_sA, aI_sM, aL_sI, aL_sL, aL_sA, aL_sM, Bcome_0, Bcome_12, Bcome_21, Bcome_32, Bcome_43, Bcome_46, Bcome_64, Bcome_74, Bcome_78, Bcome_79, Bcome_91, Bcome_97, oi_0, oi_1, oi_m5]; try dsimp only
                apply hB
                dsimp only [rgo, rfd, Bcome, Nat.beq, rwp, rst, lv_args, rlk, rs1, rs2, rdl, rky, rct, rcs, rcd, rno, rsw, Value.category, List.filter, List.take, List.drop, List.reverse, List.reverseAux, List.cons_append, List.nil_append, Option.toList, Int.toNat, Int.reduceToNat, if_pos, if_neg, reduceIte, ↓reduceIte, Nat.reduceAdd, Nat.reduceEqDiff, Nat.reduceBEq, beq_self_eq_true, Bool.not_true, Bool.not_false, Bool.and_true, Bool.and_false, Bool.true_and, Bool.false_and, gI_sI, gI_sL, gI_sA, gI_sM, gL_sI, gL_sL, gL_sA, gL_sM, aI_sI, aI_sL, aI_sA, aI_sM, aL_sI, aL_sL, aL_sA, aL_sM, Bcome_0, Bcome_12, Bcome_21, Bcome_32, Bcome_43, Bcome_46, Bcome_64, Bcome_74, Bcome_78, Bcome_79, Bcome_91, Bcome_97, oi_0, oi_1, oi_m5]; try dsimp only
                refine hW 12 [(0, .ref 1000), (1, .int k), (2, .int on), (3, .long b), (5, .int (j + 1))] _ _ _ (by simp [rdl, rky]) (loop _ ?_ b (j + 1) x f rfl ⟨by lia, by lia⟩)
                exact mlt4 hk (by lia) (by lia)
      apply hB
      dsimp only [rgo, rfd, Bcome, Nat.beq, rwp, rst, lv_args, rlk, rs1, rs2, rdl, rky, rct, rcs, rcd, rno, rsw, Value.category, List.filter, List.take, List.drop, List.reverse, List.reverseAux, List.cons_append, List.nil_append, Option.toList, Int.toNat, Int.reduceToNat, if_pos, if_neg, reduceIte, ↓reduceIte, Nat.reduceAdd, Nat.reduceEqDiff, Nat.reduceBEq, beq_self_eq_true, Bool.not_true, Bool.not_false, Bool.and_true, Bool.and_false, Bool.true_and, Bool.false_and, gI_sI, gI_sL, gI_sA, gI_sM, gL_sI, gL_sL, gL_sA, gL_sM, aI_sI, aI_sL, aI_sA, aI_sM, aL_sI, aL_sL, aL_sA, aL_sM, Bcome_0, Bcome_12, Bcome_21, Bcome_32, Bcome_43, Bcome_46, Bcome_64, Bcome_74, Bcome_78, Bcome_79, Bcome_91, Bcome_97, oi_0, oi_1, oi_m5]; try dsimp only
      refine ⟨rfl, Or.inl rfl, ?_⟩
      have e : sI σ 116 0 = sA (sI σ 116 0) 104 (aI (sI σ 116 0) 104) := sA_id.symm
      rw [e]
      exact hW 12 [(0, .ref 1000), (1, .int k), (2, .int on), (3, .long _), (5, .int 0)] _ _ _ (by simp [rdl, rky]; try rfl) (loop _ _ 0 0 _ rfl ⟨by decide, by decide⟩)
    next => exact hP.elim
theorem m_come (l : Launch) : RMet l 1 119 P_come Q_come := by
  refine RMet.by Bcome [] rocome okBcome ct0 ?_ b_come
  · intro As σ hP
    unfold P_come at hP
    split at hP
    next => exact Nat.le_of_ble_eq_true rfl
    next => exact hP.elim
set_option maxRecDepth 100000 in
theorem e_come (l : Launch) : RMetE l 1 119 P_come Q_come := by
  refine RMetE.by Bcome [] rfl rfl rocome okBcome ctE0 ?_ b_come
  · intro As σ hP
    unfold P_come at hP
    split at hP
    next => exact Nat.le_of_ble_eq_true rfl
    next => exact hP.elim
def P_ended : RP := fun As σ => match As with
  | [.int k] => (0 ≤ k ∧ k < 600) ∧ (0 ≤ (gI σ 103) ∧ (gI σ 103) ≤ 600)
  | _ => False
def Q_ended : RQ := fun As σ w τ => match As with
  | [.int k] => w = none ∧ ∃ (f : Nat → Int32) (g : Nat → Int64), τ = sM (sA σ 107 f) 108 g
  | _ => False
set_option maxRecDepth 100000 in
set_option maxHeartbeats 4000000 in
theorem b_ended : Bod Bended [(111, P_now, Q_now)] P_ended Q_ended := by
  · intro As σ hP G hB hW
    unfold P_ended at hP
    split at hP
    next k => 
      unfold Q_ended at hB
      dsimp only at hB
      obtain ⟨hk6, hj6⟩ := hP
      have loop : ∀ n : Nat, ∀ (j : Int32) (f : Nat → Int32) (g : Nat → Int64), (4000 - j.toInt).toNat = n → (0 ≤ j ∧ j ≤ 600) → G 2 [(0, .ref 1000), (1, .int k), (2, .int j)] [] (sM (sA σ 107 f) 108 g) := by
        intro n
        induction n using Nat.strongRecOn with
        | ind n loop =>
          intro j f g hk hj
          apply hB
          dsimp only [rgo, rfd, Bended, Nat.beq, rwp, rst, lv_args, rlk, rs1, rs2, rdl, rky, rct, rcs, rcd, rno, rsw, Value.category, List.filter, List.take, List.drop, List.reverse, List.reverseAux, List.cons_append, List.nil_append, Option.toList, Int.toNat, Int.reduceToNat, if_pos, if_neg, reduceIte, ↓reduceIte, Nat.reduceAdd, Nat.reduceEqDiff, Nat.reduceBEq, beq_self_eq_true, Bool.not_true, Bool.not_false, Bool.and_true, Bool.and_false, Bool.true_and, Bool.false_and, gI_sI, gI_sL, gI_sA, gI_sM, gL_sI, gL_sL, gL_sA, gL_sM, aI_sI, aI_sL, aI_sA, aI_sM, aL_sI, aL_sL, aL_sA, aL_sM, Bended_0, Bended_2, Bended_10, Bended_19, Bended_34, Bended_49, Bended_52, Bended_66, Bended_73, Bended_77, Bended_78, Bended_91, Bended_105, Bended_108, Bended_109, Bended_115, oi_0, oi_1, P_now]; try dsimp only
          refine ⟨rfl, fun h1 => ?_, fun h1 => ?_⟩
          · apply hB
            dsimp only [rgo, rfd, Bended, Nat.beq, rwp, rst, lv_args, rlk, rs1, rs2, rdl, rky, rct, rcs, rcd, rno, rsw, Value.category, List.filter, List.take, List.drop, List.reverse, List.reverseAux, List.cons_append, List.nil_append, Option.toList, Int.toNat, Int.reduceToNat, if_pos, if_neg, reduceIte, ↓reduceIte, Nat.reduceAdd, Nat.reduceEqDiff, Nat.reduceBEq, beq_self_eq_true, Bool.not_true, Bool.not_false, Bool.and_true, Bool.and_false, Bool.true_and, Bool.false_and, gI_sI, gI_sL, gI_sA, gI_sM, gL_sI, gL_sL, gL_sA, gL_sM, aI_sI, aI_sL, aI_sA, aI_sM, aL_sI, aL_sL, aL_sA, aL_sM, Bended_0, Bended_2, Bended_10, Bended_19, Bended_34, Bended_49, Bended_52, Bended_66, Bended_73, Bended_77, Bended_78, Bended_91, Bended_105, Bended_108, Bended_109, Bended_115, oi_0, oi_1, P_now]; try dsimp only
            exact ⟨rfl, _, _, rfl⟩
          · apply hB
            dsimp only [rgo, rfd, Bended, Nat.beq, rwp, rst, lv_args, rlk, rs1, rs2, rdl, rky, rct, rcs, rcd, rno, rsw, Value.category, List.filter, List.take, List.drop, List.reverse, List.reverseAux, List.cons_append, List.nil_append, Option.toList, Int.toNat, Int.reduceToNat, if_pos, if_neg, reduceIte, ↓reduceIte, Nat.reduceAdd, Nat.reduceEqDiff, Nat.reduceBEq, beq_self_eq_true, Bool.not_true, Bool.not_false, Bool.and_true, Bool.and_false, Bool.true_and, Bool.false_and, gI_sI, gI_sL, gI_sA, gI_sM, gL_sI, gL_sL, gL_sA, gL_sM, aI_sI, aI_sL, aI_sA, aI_sM, aL_sI, aL_sL, aL_sA, aL_sM, Bended_0, Bended_2, Bended_10, Bended_19, Bended_34, Bended_49, Bended_52, Bended_66, Bended_73, Bended_77, Bended_78, Bended_91, Bended_105, Bended_108, Bended_109, Bended_115, oi_0, oi_1, P_now]; try dsimp only
            refine ⟨rfl, rfl, (in_104 (by lia) (by lia)), fun h2 => ?_, fun h2 => ?_⟩
            · apply hB
              dsimp only [rgo, rfd, Bended, Nat.beq, rwp, rst, lv_args, rlk, rs1, rs2, rdl, rky, rct, rcs, rcd, rno, rsw, Value.category, List.filter, List.take, List.drop, List.reverse, List.reverseAux, List.cons_append, List.nil_append, Option.toList, Int.toNat, Int.reduceToNat, if_pos, if_neg, reduceIte, ↓reduceIte, Nat.reduceAdd, Nat.reduceEqDiff, Nat.reduceBEq, beq_self_eq_true, Bool.not_true, Bool.not_false, Bool.and_true, Bool.and_false, Bool.true_and, Bool.false_and, gI_sI, gI_sL, gI_sA, gI_sM, gL_sI, gL_sL, gL_sA, gL_sM, aI_sI, aI_sL, aI_sA, aI_sM, aL_sI, aL_sL, aL_sA, aL_sM, Bended_0, Bended_2, Bended_10, Bended_19, Bended_34, Bended_49, Bended_52, Bended_66, Bended_73, Bended_77, Bended_78, Bended_91, Bended_105, Bended_108, Bended_109, Bended_115, oi_0, oi_1, P_now]; try dsimp only
              refine hW 2 [(0, .ref 1000), (1, .int k), (2, .int (j + 1))] _ _ _ (by simp [rdl, rky]) (loop _ ?_ (j + 1) f g rfl ⟨by lia, by lia⟩)
              exact mlt4 hk (by lia) (by lia)
            · apply hB
              dsimp only [rgo, rfd, Bended, Nat.beq, rwp, rst, lv_args, rlk, rs1, rs2, rdl, rky, rct, rcs, rcd, rno, rsw, Value.category, List.filter, List.take, List.drop, List.reverse, List.reverseAux, List.cons_append, List.nil_append, Option.toList, Int.toNat, Int.reduceToNat, if_pos, if_neg, reduceIte, ↓reduceIte, Nat.reduceAdd, Nat.reduceEqDiff, Nat.reduceBEq, beq_self_eq_true, Bool.not_true, Bool.not_false, Bool.and_true, Bool.and_false, Bool.true_and, Bool.false_and, gI_sI, gI_sL, gI_sA, gI_sM, gL_sI, gL_sL, gL_sA, gL_sM, aI_sI, aI_sL, aI_sA, aI_sM, aL_sI, aL_sL, aL_sA, aL_sM, Bended_0, Bended_2, Bended_10, Bended_19, Bended_34, Bended_49, Bended_52, Bended_66, Bended_73, Bended_77, Bended_78, Bended_91, Bended_105, Bended_108, Bended_109, Bended_115, oi_0, oi_1, P_now]; try dsimp only
              refine ⟨rfl, rfl, (in_106 (by lia) (by lia)), rfl, rfl, (in_51 (by lia) (by lia)), fun h3 => ?_, fun h3 => ?_⟩
              · apply hB
                dsimp only [rgo, rfd, Bended, Nat.beq, rwp, rst, lv_args, rlk, rs1, rs2, rdl, rky, rct, rcs, rcd, rno, rsw, Value.category, List.filter, List.take, List.drop, List.reverse, List.reverseAux, List.cons_append, List.nil_append, Option.toList, Int.toNat, Int.reduceToNat, if_pos, if_neg, reduceIte, ↓reduceIte, Nat.reduceAdd, Nat.reduceEqDiff, Nat.reduceBEq, beq_self_eq_true, Bool.not_true, Bool.not_false, Bool.and_true, Bool.and_false, Bool.true_and, Bool.false_and, gI_sI, gI_sL, gI_sA, gI_sM, gL_sI, gL_sL, gL_sA, gL_sM, aI_sI, aI_sL, aI_sA, aI_sM, aL_sI, aL_sL, aL_sA, aL_sM, Bended_0, Bended_2, Bended_10, Bended_19, Bended_34, Bended_49, Bended_52, Bended_66, Bended_73, Bended_77, Bended_78, Bended_91, Bended_105, Bended_108, Bended_109, Bended_115, oi_0, oi_1, P_now]; try dsimp only
                refine hW 2 [(0, .ref 1000), (1, .int k), (2, .int (j + 1))] _ _ _ (by simp [rdl, rky]) (loop _ ?_ (j + 1) f g rfl ⟨by lia, by lia⟩)
                exact mlt4 hk (by lia) (by lia)
              · apply hB
                dsimp only [rgo, rfd, Bended, Nat.beq, rwp, rst, lv_args, rlk, rs1, rs2, rdl, rky, rct, rcs, rcd, rno, rsw, Value.category, List.filter, List.take, List.drop, List.reverse, List.reverseAux, List.cons_append, List.nil_append, Option.toList, Int.toNat, Int.reduceToNat, if_pos, if_neg, reduceIte, ↓reduceIte, Nat.reduceAdd, Nat.reduceEqDiff, Nat.reduceBEq, beq_self_eq_true, Bool.not_true, Bool.not_false, Bool.and_true, Bool.and_false, Bool.true_and, Bool.false_and, gI_sI, gI_sL, gI_sA, gI_sM, gL_sI, gL_sL, gL_sA, gL_sM, aI_sI, aI_sL, aI_sA, aI_sM, aL_sI, aL_sL, aL_sA, aL_sM, Bended_0, Bended_2, Bended_10, Bended_19, Bended_34, Bended_49, Bended_52, Bended_66, Bended_73, Bended_77, Bended_78, Bended_91, Bended_105, Bended_108, Bended_109, Bended_115, oi_0, oi_1, P_now]; try dsimp only
                refine ⟨rfl, rfl, (in_106 (by lia) (by lia)), rfl, rfl, (in_58 (by lia) (by lia)), fun h4 => ?_, fun h4 => ?_⟩
                · apply hB
                  dsimp only [rgo, rfd, Bended, Nat.beq, rwp, rst, lv_args, rlk, rs1, rs2, rdl, rky, rct, rcs, rcd, rno, rsw, Value.category, List.filter, List.take, List.drop, List.reverse, List.reverseAux, List.cons_append, List.nil_append, Option.toList, Int.toNat, Int.reduceToNat, if_pos, if_neg, reduceIte, ↓reduceIte, Nat.reduceAdd, Nat.reduceEqDiff, Nat.reduceBEq, beq_self_eq_true, Bool.not_true, Bool.not_false, Bool.and_true, Bool.and_false, Bool.true_and, Bool.false_and, gI_sI, gI_sL, gI_sA, gI_sM, gL_sI, gL_sL, gL_sA, gL_sM, aI_sI, aI_sL, aI_sA, aI_sM, aL_sI, aL_sL, aL_sA, aL_sM, Bended_0, Bended_2, Bended_10, Bended_19, Bended_34, Bended_49, Bended_52, Bended_66, Bended_73, Bended_77, Bended_78, Bended_91, Bended_105, Bended_108, Bended_109, Bended_115, oi_0, oi_1, P_now]; try dsimp only
                  refine ⟨rfl, rfl, rfl, (in_107 (by lia) (by lia)), fun h5 => ?_, fun h5 => ?_⟩
                  · apply hB
                    dsimp only [rgo, rfd, Bended, Nat.beq, rwp, rst, lv_args, rlk, rs1, rs2, rdl, rky, rct, rcs, rcd, rno, rsw, Value.category, List.filter, List.take, List.drop, List.reverse, List.reverseAux, List.cons_append, List.nil_append, Option.toList, Int.toNat, Int.reduceToNat, if_pos, if_neg, reduceIte, ↓reduceIte, Nat.reduceAdd, Nat.reduceEqDiff, Nat.reduceBEq, beq_self_eq_true, Bool.not_true, Bool.not_false, Bool.and_true, Bool.and_false, Bool.true_and, Bool.false_and, gI_sI, gI_sL, gI_sA, gI_sM, gL_sI, gL_sL, gL_sA, gL_sM, aI_sI, aI_sL, aI_sA, aI_sM, aL_sI, aL_sL, aL_sA, aL_sM, Bended_0, Bended_2, Bended_10, Bended_19, Bended_34, Bended_49, Bended_52, Bended_66, Bended_73, Bended_77, Bended_78, Bended_91, Bended_105, Bended_108, Bended_109, Bended_115, oi_0, oi_1, P_now]; try dsimp only
                    apply hB
                    dsimp only [rgo, rfd, Bended, Nat.beq, rwp, rst, lv_args, rlk, rs1, rs2, rdl, rky, rct, rcs, rcd, rno, rsw, Value.category, List.filter, List.take, List.drop, List.reverse, List.reverseAux, List.cons_append, List.nil_append, Option.toList, Int.toNat, Int.reduceToNat, if_pos, if_neg, reduceIte, ↓reduceIte, Nat.reduceAdd, Nat.reduceEqDiff, Nat.reduceBEq, beq_self_eq_true, Bool.not_true, Bool.not_false, Bool.and_true, Bool.and_false, Bool.true_and, Bool.false_and, gI_sI, gI_sL, gI_sA, gI_sM, gL_sI, gL_sL, gL_sA, gL_sM, aI_sI, aI_sL, aI_sA, aI_sM, aL_sI, aL_sL, aL_sA, aL_sM, Bended_0, Bended_2, Bended_10, Bended_19, Bended_34, Bended_49, Bended_52, Bended_66, Bended_73, Bended_77, Bended_78, Bended_91, Bended_105, Bended_108, Bended_109, Bended_115, oi_0, oi_1, P_now]; try dsimp only
                    refine ⟨rfl, (in_107 (by lia) (by lia)), Or.inl rfl, rfl, rfl, fun h6 => ?_, fun h6 => ?_⟩
                    · apply hB
                      dsimp only [rgo, rfd, Bended, Nat.beq, rwp, rst, lv_args, rlk, rs1, rs2, rdl, rky, rct, rcs, rcd, rno, rsw, Value.category, List.filter, List.take, List.drop, List.reverse, List.reverseAux, List.cons_append, List.nil_append, Option.toList, Int.toNat, Int.reduceToNat, if_pos, if_neg, reduceIte, ↓reduceIte, Nat.reduceAdd, Nat.reduceEqDiff, Nat.reduceBEq, beq_self_eq_true, Bool.not_true, Bool.not_false, Bool.and_true, Bool.and_false, Bool.true_and, Bool.false_and, gI_sI, gI_sL, gI_sA, gI_sM, gL_sI, gL_sL, gL_sA, gL_sM, aI_sI, aI_sL, aI_sA, aI_sM, aL_sI, aL_sL, aL_sA, aL_sM, Bended_0, Bended_2, Bended_10, Bended_19, Bended_34, Bended_49, Bended_52, Bended_66, Bended_73, Bended_77, Bended_78, Bended_91, Bended_105, Bended_108, Bended_109, Bended_115, oi_0, oi_1, P_now]; try dsimp only
                      apply hB
                      dsimp only [rgo, rfd, Bended, Nat.beq, rwp, rst, lv_args, rlk, rs1, rs2, rdl, rky, rct, rcs, rcd, rno, rsw, Value.category, List.filter, List.take, List.drop, List.reverse, List.reverseAux, List.cons_append, List.nil_append, Option.toList, Int.toNat, Int.reduceToNat, if_pos, if_neg, reduceIte, ↓reduceIte, Nat.reduceAdd, Nat.reduceEqDiff, Nat.reduceBEq, beq_self_eq_true, Bool.not_true, Bool.not_false, Bool.and_true, Bool.and_false, Bool.true_and, Bool.false_and, gI_sI, gI_sL, gI_sA, gI_sM, gL_sI, gL_sL, gL_sA, gL_sM, aI_sI, aI_sL, aI_sA, aI_sM, aL_sI, aL_sL, aL_sA, aL_sM, Bended_0, Bended_2, Bended_10, Bended_19, Bended_34, Bended_49, Bended_52, Bended_66, Bended_73, Bended_77, Bended_78, Bended_91, Bended_105, Bended_108, Bended_109, Bended_115, oi_0, oi_1, P_now]; try dsimp only
                      refine ⟨rfl, (in_108 (by lia) (by lia)), ?_⟩
                      apply hB
                      dsimp only [rgo, rfd, Bended, Nat.beq, rwp, rst, lv_args, rlk, rs1, rs2, rdl, rky, rct, rcs, rcd, rno, rsw, Value.category, List.filter, List.take, List.drop, List.reverse, List.reverseAux, List.cons_append, List.nil_append, Option.toList, Int.toNat, Int.reduceToNat, if_pos, if_neg, reduceIte, ↓reduceIte, Nat.reduceAdd, Nat.reduceEqDiff, Nat.reduceBEq, beq_self_eq_true, Bool.not_true, Bool.not_false, Bool.and_true, Bool.and_false, Bool.true_and, Bool.false_and, gI_sI, gI_sL, gI_sA, gI_sM, gL_sI, gL_sL, gL_sA, gL_sM, aI_sI, aI_sL, aI_sA, aI_sM, aL_sI, aL_sL, aL_sA, aL_sM, Bended_0, Bended_2, Bended_10, Bended_19, Bended_34, Bended_49, Bended_52, Bended_66, Bended_73, Bended_77, Bended_78, Bended_91, Bended_105, Bended_108, Bended_109, Bended_115, oi_0, oi_1, P_now]; try dsimp only
                      rw [edn]
                      refine hW 2 [(0, .ref 1000), (1, .int k), (2, .int (j + 1))] _ _ _ (by simp [rdl, rky]) (loop _ ?_ (j + 1) _ _ rfl ⟨by lia, by lia⟩)
                      exact mlt4 hk (by lia) (by lia)
                    · apply hB
                      dsimp only [rgo, rfd, Bended, Nat.beq, rwp, rst, lv_args, rlk, rs1, rs2, rdl, rky, rct, rcs, rcd, rno, rsw, Value.category, List.filter, List.take, List.drop, List.reverse, List.reverseAux, List.cons_append, List.nil_append, Option.toList, Int.toNat, Int.reduceToNat, if_pos, if_neg, reduceIte, ↓reduceIte, Nat.reduceAdd, Nat.reduceEqDiff, Nat.reduceBEq, beq_self_eq_true, Bool.not_true, Bool.not_false, Bool.and_true, Bool.and_false, Bool.true_and, Bool.false_and, gI_sI, gI_sL, gI_sA, gI_sM, gL_sI, gL_sL, gL_sA, gL_sM, aI_sI, aI_sL, aI_sA, aI_sM, aL_sI, aL_sL, aL_sA, aL_sM, Bended_0, Bended_2, Bended_10, Bended_19, Bended_34, Bended_49, Bended_52, Bended_66, Bended_73, Bended_77, Bended_78, Bended_91, Bended_105, Bended_108, Bended_109, Bended_115, oi_0, oi_1, P_now]; try dsimp only
                      refine ⟨rfl, rfl, (in_108 (by lia) (by lia)), rfl, (by decide), (trivial), fun w7 τ7 hq7 => ?_⟩
                      obtain ⟨r7, rfl, e7⟩ := hq7
                      obtain rfl := e7.symm
                      dsimp only [Option.toList, List.cons_append, List.nil_append, Nat.beq, gI_sI, gI_sL, gI_sA, gI_sM, gL_sI, gL_sL, gL_sA, gL_sM, aI_sI, aI_sL, aI_sA, aI_sM, aL_sI, aL_sL, aL_sA, aL_sM]
                      apply hB
                      dsimp only [rgo, rfd, Bended, Nat.beq, rwp, rst, lv_args, rlk, rs1, rs2, rdl, rky, rct, rcs, rcd, rno, rsw, Value.category, List.filter, List.take, List.drop, List.reverse, List.reverseAux, List.cons_append, List.nil_append, Option.toList, Int.toNat, Int.reduceToNat, if_pos, if_neg, reduceIte, ↓reduceIte, Nat.reduceAdd, Nat.reduceEqDiff, Nat.reduceBEq, beq_self_eq_true, Bool.not_true, Bool.not_false, Bool.and_true, Bool.and_false, Bool.true_and, Bool.false_and, gI_sI, gI_sL, gI_sA, gI_sM, gL_sI, gL_sL, gL_sA, gL_sM, aI_sI, aI_sL, aI_sA, aI_sM, aL_sI, aL_sL, aL_sA, aL_sM, Bended_0, Bended_2, Bended_10, Bended_19, Bended_34, Bended_49, Bended_52, Bended_66, Bended_73, Bended_77, Bended_78, Bended_91, Bended_105, Bended_108, Bended_109, Bended_115, oi_0, oi_1, P_now]; try dsimp only
                      refine ⟨rfl, (in_108 (by lia) (by lia)), ?_⟩
                      apply hB
                      dsimp only [rgo, rfd, Bended, Nat.beq, rwp, rst, lv_args, rlk, rs1, rs2, rdl, rky, rct, rcs, rcd, rno, rsw, Value.category, List.filter, List.take, List.drop, List.reverse, List.reverseAux, List.cons_append, List.nil_append, Option.toList, Int.toNat, Int.reduceToNat, if_pos, if_neg, reduceIte, ↓reduceIte, Nat.reduceAdd, Nat.reduceEqDiff, Nat.reduceBEq, beq_self_eq_true, Bool.not_true, Bool.not_false, Bool.and_true, Bool.and_false, Bool.true_and, Bool.false_and, gI_sI, gI_sL, gI_sA, gI_sM, gL_sI, gL_sL, gL_sA, gL_sM, aI_sI, aI_sL, aI_sA, aI_sM, aL_sI, aL_sL, aL_sA, aL_sM, Bended_0, Bended_2, Bended_10, Bended_19, Bended_34, Bended_49, Bended_52, Bended_66, Bended_73, Bended_77, Bended_78, Bended_91, Bended_105, Bended_108, Bended_109, Bended_115, oi_0, oi_1, P_now]; try dsimp only
                      rw [edn]
                      refine hW 2 [(0, .ref 1000), (1, .int k), (2, .int (j + 1))] _ _ _ (by simp [rdl, rky]) (loop _ ?_ (j + 1) _ _ rfl ⟨by lia, by lia⟩)
                      exact mlt4 hk (by lia) (by lia)
                  · apply hB
                    dsimp only [rgo, rfd, Bended, Nat.beq, rwp, rst, lv_args, rlk, rs1, rs2, rdl, rky, rct, rcs, rcd, rno, rsw, Value.category, List.filter, List.take, List.drop, List.reverse, List.reverseAux, List.cons_append, List.nil_append, Option.toList, Int.toNat, Int.reduceToNat, if_pos, if_neg, reduceIte, ↓reduceIte, Nat.reduceAdd, Nat.reduceEqDiff, Nat.reduceBEq, beq_self_eq_true, Bool.not_true, Bool.not_false, Bool.and_true, Bool.and_false, Bool.true_and, Bool.false_and, gI_sI, gI_sL, gI_sA, gI_sM, gL_sI, gL_sL, gL_sA, gL_sM, aI_sI, aI_sL, aI_sA, aI_sM, aL_sI, aL_sL, aL_sA, aL_sM, Bended_0, Bended_2, Bended_10, Bended_19, Bended_34, Bended_49, Bended_52, Bended_66, Bended_73, Bended_77, Bended_78, Bended_91, Bended_105, Bended_108, Bended_109, Bended_115, oi_0, oi_1, P_now]; try dsimp only
                    refine ⟨rfl, fun h8 => ?_, fun h8 => ?_⟩
                    · apply hB
                      dsimp only [rgo, rfd, Bended, Nat.beq, rwp, rst, lv_args, rlk, rs1, rs2, rdl, rky, rct, rcs, rcd, rno, rsw, Value.category, List.filter, List.take, List.drop, List.reverse, List.reverseAux, List.cons_append, List.nil_append, Option.toList, Int.toNat, Int.reduceToNat, if_pos, if_neg, reduceIte, ↓reduceIte, Nat.reduceAdd, Nat.reduceEqDiff, Nat.reduceBEq, beq_self_eq_true, Bool.not_true, Bool.not_false, Bool.and_true, Bool.and_false, Bool.true_and, Bool.false_and, gI_sI, gI_sL, gI_sA, gI_sM, gL_sI, gL_sL, gL_sA, gL_sM, aI_sI, aI_sL, aI_sA, aI_sM, aL_sI, aL_sL, aL_sA, aL_sM, Bended_0, Bended_2, Bended_10, Bended_19, Bended_34, Bended_49, Bended_52, Bended_66, Bended_73, Bended_77, Bended_78, Bended_91, Bended_105, Bended_108, Bended_109, Bended_115, oi_0, oi_1, P_now]; try dsimp only
                      apply hB
                      dsimp only [rgo, rfd, Bended, Nat.beq, rwp, rst, lv_args, rlk, rs1, rs2, rdl, rky, rct, rcs, rcd, rno, rsw, Value.category, List.filter, List.take, List.drop, List.reverse, List.reverseAux, List.cons_append, List.nil_append, Option.toList, Int.toNat, Int.reduceToNat, if_pos, if_neg, reduceIte, ↓reduceIte, Nat.reduceAdd, Nat.reduceEqDiff, Nat.reduceBEq, beq_self_eq_true, Bool.not_true, Bool.not_false, Bool.and_true, Bool.and_false, Bool.true_and, Bool.false_and, gI_sI, gI_sL, gI_sA, gI_sM, gL_sI, gL_sL, gL_sA, gL_sM, aI_sI, aI_sL, aI_sA, aI_sM, aL_sI, aL_sL, aL_sA, aL_sM, Bended_0, Bended_2, Bended_10, Bended_19, Bended_34, Bended_49, Bended_52, Bended_66, Bended_73, Bended_77, Bended_78, Bended_91, Bended_105, Bended_108, Bended_109, Bended_115, oi_0, oi_1, P_now]; try dsimp only
                      refine ⟨rfl, (in_107 (by lia) (by lia)), Or.inl rfl, rfl, rfl, fun h9 => ?_, fun h9 => ?_⟩
                      · apply hB
                        dsimp only [rgo, rfd, Bended, Nat.beq, rwp, rst, lv_args, rlk, rs1, rs2, rdl, rky, rct, rcs, rcd, rno, rsw, Value.category, List.filter, List.take, List.drop, List.reverse, List.reverseAux, List.cons_append, List.nil_append, Option.toList, Int.toNat, Int.reduceToNat, if_pos, if_neg, reduceIte, ↓reduceIte, Nat.reduceAdd, Nat.reduceEqDiff, Nat.reduceBEq, beq_self_eq_true, Bool.not_true, Bool.not_false, Bool.and_true, Bool.and_false, Bool.true_and, Bool.false_and, gI_sI, gI_sL, gI_sA, gI_sM, gL_sI, gL_sL, gL_sA, gL_sM, aI_sI, aI_sL, aI_sA, aI_sM, aL_sI, aL_sL, aL_sA, aL_sM, Bended_0, Bended_2, Bended_10, Bended_19, Bended_34, Bended_49, Bended_52, Bended_66, Bended_73, Bended_77, Bended_78, Bended_91, Bended_105, Bended_108, Bended_109, Bended_115, oi_0, oi_1, P_now]; try dsimp only
                        apply hB
                        dsimp only [rgo, rfd, Bended, Nat.beq, rwp, rst, lv_args, rlk, rs1, rs2, rdl, rky, rct, rcs, rcd, rno, rsw, Value.category, List.filter, List.take, List.drop, List.reverse, List.reverseAux, List.cons_append, List.nil_append, Option.toList, Int.toNat, Int.reduceToNat, if_pos, if_neg, reduceIte, ↓reduceIte, Nat.reduceAdd, Nat.reduceEqDiff, Nat.reduceBEq, beq_self_eq_true, Bool.not_true, Bool.not_false, Bool.and_true, Bool.and_false, Bool.true_and, Bool.false_and, gI_sI, gI_sL, gI_sA, gI_sM, gL_sI, gL_sL, gL_sA, gL_sM, aI_sI, aI_sL, aI_sA, aI_sM, aL_sI, aL_sL, aL_sA, aL_sM, Bended_0, Bended_2, Bended_10, Bended_19, Bended_34, Bended_49, Bended_52, Bended_66, Bended_73, Bended_77, Bended_78, Bended_91, Bended_105, Bended_108, Bended_109, Bended_115, oi_0, oi_1, P_now]; try dsimp only
                        refine ⟨rfl, (in_108 (by lia) (by lia)), ?_⟩
                        apply hB
                        dsimp only [rgo, rfd, Bended, Nat.beq, rwp, rst, lv_args, rlk, rs1, rs2, rdl, rky, rct, rcs, rcd, rno, rsw, Value.category, List.filter, List.take, List.drop, List.reverse, List.reverseAux, List.cons_append, List.nil_append, Option.toList, Int.toNat, Int.reduceToNat, if_pos, if_neg, reduceIte, ↓reduceIte, Nat.reduceAdd, Nat.reduceEqDiff, Nat.reduceBEq, beq_self_eq_true, Bool.not_true, Bool.not_false, Bool.and_true, Bool.and_false, Bool.true_and, Bool.false_and, gI_sI, gI_sL, gI_sA, gI_sM, gL_sI, gL_sL, gL_sA, gL_sM, aI_sI, aI_sL, aI_sA, aI_sM, aL_sI, aL_sL, aL_sA, aL_sM, Bended_0, Bended_2, Bended_10, Bended_19, Bended_34, Bended_49, Bended_52, Bended_66, Bended_73, Bended_77, Bended_78, Bended_91, Bended_105, Bended_108, Bended_109, Bended_115, oi_0, oi_1, P_now]; try dsimp only
                        rw [edn]
                        refine hW 2 [(0, .ref 1000), (1, .int k), (2, .int (j + 1))] _ _ _ (by simp [rdl, rky]) (loop _ ?_ (j + 1) _ _ rfl ⟨by lia, by lia⟩)
                        exact mlt4 hk (by lia) (by lia)
                      · apply hB
                        dsimp only [rgo, rfd, Bended, Nat.beq, rwp, rst, lv_args, rlk, rs1, rs2, rdl, rky, rct, rcs, rcd, rno, rsw, Value.category, List.filter, List.take, List.drop, List.reverse, List.reverseAux, List.cons_append, List.nil_append, Option.toList, Int.toNat, Int.reduceToNat, if_pos, if_neg, reduceIte, ↓reduceIte, Nat.reduceAdd, Nat.reduceEqDiff, Nat.reduceBEq, beq_self_eq_true, Bool.not_true, Bool.not_false, Bool.and_true, Bool.and_false, Bool.true_and, Bool.false_and, gI_sI, gI_sL, gI_sA, gI_sM, gL_sI, gL_sL, gL_sA, gL_sM, aI_sI, aI_sL, aI_sA, aI_sM, aL_sI, aL_sL, aL_sA, aL_sM, Bended_0, Bended_2, Bended_10, Bended_19, Bended_34, Bended_49, Bended_52, Bended_66, Bended_73, Bended_77, Bended_78, Bended_91, Bended_105, Bended_108, Bended_109, Bended_115, oi_0, oi_1, P_now]; try dsimp only
                        refine ⟨rfl, rfl, (in_108 (by lia) (by lia)), rfl, (by decide), (trivial), fun w10 τ10 hq10 => ?_⟩
                        obtain ⟨r10, rfl, e10⟩ := hq10
                        obtain rfl := e10.symm
                        dsimp only [Option.toList, List.cons_append, List.nil_append, Nat.beq, gI_sI, gI_sL, gI_sA, gI_sM, gL_sI, gL_sL, gL_sA, gL_sM, aI_sI, aI_sL, aI_sA, aI_sM, aL_sI, aL_sL, aL_sA, aL_sM]
                        apply hB
                        dsimp only [rgo, rfd, Bended, Nat.beq, rwp, rst, lv_args, rlk, rs1, rs2, rdl, rky, rct, rcs, rcd, rno, rsw, Value.category, List.filter, List.take, List.drop, List.reverse, List.reverseAux, List.cons_append, List.nil_append, Option.toList, Int.toNat, Int.reduceToNat, if_pos, if_neg, reduceIte, ↓reduceIte, Nat.reduceAdd, Nat.reduceEqDiff, Nat.reduceBEq, beq_self_eq_true, Bool.not_true, Bool.not_false, Bool.and_true, Bool.and_false, Bool.true_and, Bool.false_and, gI_sI, gI_sL, gI_sA, gI_sM, gL_sI, gL_sL, gL_sA, gL_sM, aI_sI, aI_sL, aI_sA, aI_sM, aL_sI, aL_sL, aL_sA, aL_sM, Bended_0, Bended_2, Bended_10, Bended_19, Bended_34, Bended_49, Bended_52, Bended_66, Bended_73, Bended_77, Bended_78, Bended_91, Bended_105, Bended_108, Bended_109, Bended_115, oi_0, oi_1, P_now]; try dsimp only
                        refine ⟨rfl, (in_108 (by lia) (by lia)), ?_⟩
                        apply hB
                        dsimp only [rgo, rfd, Bended, Nat.beq, rwp, rst, lv_args, rlk, rs1, rs2, rdl, rky, rct, rcs, rcd, rno, rsw, Value.category, List.filter, List.take, List.drop, List.reverse, List.reverseAux, List.cons_append, List.nil_append, Option.toList, Int.toNat, Int.reduceToNat, if_pos, if_neg, reduceIte, ↓reduceIte, Nat.reduceAdd, Nat.reduceEqDiff, Nat.reduceBEq, beq_self_eq_true, Bool.not_true, Bool.not_false, Bool.and_true, Bool.and_false, Bool.true_and, Bool.false_and, gI_sI, gI_sL, gI_sA, gI_sM, gL_sI, gL_sL, gL_sA, gL_sM, aI_sI, aI_sL, aI_sA, aI_sM, aL_sI, aL_sL, aL_sA, aL_sM, Bended_0, Bended_2, Bended_10, Bended_19, Bended_34, Bended_49, Bended_52, Bended_66, Bended_73, Bended_77, Bended_78, Bended_91, Bended_105, Bended_108, Bended_109, Bended_115, oi_0, oi_1, P_now]; try dsimp only
                        rw [edn]
                        refine hW 2 [(0, .ref 1000), (1, .int k), (2, .int (j + 1))] _ _ _ (by simp [rdl, rky]) (loop _ ?_ (j + 1) _ _ rfl ⟨by lia, by lia⟩)
                        exact mlt4 hk (by lia) (by lia)
                    · apply hB
                      dsimp only [rgo, rfd, Bended, Nat.beq, rwp, rst, lv_args, rlk, rs1, rs2, rdl, rky, rct, rcs, rcd, rno, rsw, Value.category, List.filter, List.take, List.drop, List.reverse, List.reverseAux, List.cons_append, List.nil_append, Option.toList, Int.toNat, Int.reduceToNat, if_pos, if_neg, reduceIte, ↓reduceIte, Nat.reduceAdd, Nat.reduceEqDiff, Nat.reduceBEq, beq_self_eq_true, Bool.not_true, Bool.not_false, Bool.and_true, Bool.and_false, Bool.true_and, Bool.false_and, gI_sI, gI_sL, gI_sA, gI_sM, gL_sI, gL_sL, gL_sA, gL_sM, aI_sI, aI_sL, aI_sA, aI_sM, aL_sI, aL_sL, aL_sA, aL_sM, Bended_0, Bended_2, Bended_10, Bended_19, Bended_34, Bended_49, Bended_52, Bended_66, Bended_73, Bended_77, Bended_78, Bended_91, Bended_105, Bended_108, Bended_109, Bended_115, oi_0, oi_1, P_now]; try dsimp only
                      apply hB
                      dsimp only [rgo, rfd, Bended, Nat.beq, rwp, rst, lv_args, rlk, rs1, rs2, rdl, rky, rct, rcs, rcd, rno, rsw, Value.category, List.filter, List.take, List.drop, List.reverse, List.reverseAux, List.cons_append, List.nil_append, Option.toList, Int.toNat, Int.reduceToNat, if_pos, if_neg, reduceIte, ↓reduceIte, Nat.reduceAdd, Nat.reduceEqDiff, Nat.reduceBEq, beq_self_eq_true, Bool.not_true, Bool.not_false, Bool.and_true, Bool.and_false, Bool.true_and, Bool.false_and, gI_sI, gI_sL, gI_sA, gI_sM, gL_sI, gL_sL, gL_sA, gL_sM, aI_sI, aI_sL, aI_sA, aI_sM, aL_sI, aL_sL, aL_sA, aL_sM, Bended_0, Bended_2, Bended_10, Bended_19, Bended_34, Bended_49, Bended_52, Bended_66, Bended_73, Bended_77, Bended_78, Bended_91, Bended_105, Bended_108, Bended_109, Bended_115, oi_0, oi_1, P_now]; try dsimp only
                      refine ⟨rfl, (in_107 (by lia) (by lia)), Or.inr rfl, rfl, rfl, fun h11 => ?_, fun h11 => ?_⟩
                      · apply hB
                        dsimp only [rgo, rfd, Bended, Nat.beq, rwp, rst, lv_args, rlk, rs1, rs2, rdl, rky, rct, rcs, rcd, rno, rsw, Value.category, List.filter, List.take, List.drop, List.reverse, List.reverseAux, List.cons_append, List.nil_append, Option.toList, Int.toNat, Int.reduceToNat, if_pos, if_neg, reduceIte, ↓reduceIte, Nat.reduceAdd, Nat.reduceEqDiff, Nat.reduceBEq, beq_self_eq_true, Bool.not_true, Bool.not_false, Bool.and_true, Bool.and_false, Bool.true_and, Bool.false_and, gI_sI, gI_sL, gI_sA, gI_sM, gL_sI, gL_sL, gL_sA, gL_sM, aI_sI, aI_sL, aI_sA, aI_sM, aL_sI, aL_sL, aL_sA, aL_sM, Bended_0, Bended_2, Bended_10, Bended_19, Bended_34, Bended_49, Bended_52, Bended_66, Bended_73, Bended_77, Bended_78, Bended_91, Bended_105, Bended_108, Bended_109, Bended_115, oi_0, oi_1, P_now]; try dsimp only
                        apply hB
                        dsimp only [rgo, rfd, Bended, Nat.beq, rwp, rst, lv_args, rlk, rs1, rs2, rdl, rky, rct, rcs, rcd, rno, rsw, Value.category, List.filter, List.take, List.drop, List.reverse, List.reverseAux, List.cons_append, List.nil_append, Option.toList, Int.toNat, Int.reduceToNat, if_pos, if_neg, reduceIte, ↓reduceIte, Nat.reduceAdd, Nat.reduceEqDiff, Nat.reduceBEq, beq_self_eq_true, Bool.not_true, Bool.not_false, Bool.and_true, Bool.and_false, Bool.true_and, Bool.false_and, gI_sI, gI_sL, gI_sA, gI_sM, gL_sI, gL_sL, gL_sA, gL_sM, aI_sI, aI_sL, aI_sA, aI_sM, aL_sI, aL_sL, aL_sA, aL_sM, Bended_0, Bended_2, Bended_10, Bended_19, Bended_34, Bended_49, Bended_52, Bended_66, Bended_73, Bended_77, Bended_78, Bended_91, Bended_105, Bended_108, Bended_109, Bended_115, oi_0, oi_1, P_now]; try dsimp only
                        refine ⟨rfl, (in_108 (by lia) (by lia)), ?_⟩
                        apply hB
                        dsimp only [rgo, rfd, Bended, Nat.beq, rwp, rst, lv_args, rlk, rs1, rs2, rdl, rky, rct, rcs, rcd, rno, rsw, Value.category, List.filter, List.take, List.drop, List.reverse, List.reverseAux, List.cons_append, List.nil_append, Option.toList, Int.toNat, Int.reduceToNat, if_pos, if_neg, reduceIte, ↓reduceIte, Nat.reduceAdd, Nat.reduceEqDiff, Nat.reduceBEq, beq_self_eq_true, Bool.not_true, Bool.not_false, Bool.and_true, Bool.and_false, Bool.true_and, Bool.false_and, gI_sI, gI_sL, gI_sA, gI_sM, gL_sI, gL_sL, gL_sA, gL_sM, aI_sI, aI_sL, aI_sA, aI_sM, aL_sI, aL_sL, aL_sA, aL_sM, Bended_0, Bended_2, Bended_10, Bended_19, Bended_34, Bended_49, Bended_52, Bended_66, Bended_73, Bended_77, Bended_78, Bended_91, Bended_105, Bended_108, Bended_109, Bended_115, oi_0, oi_1, P_now]; try dsimp only
                        rw [edn]
                        refine hW 2 [(0, .ref 1000), (1, .int k), (2, .int (j + 1))] _ _ _ (by simp [rdl, rky]) (loop _ ?_ (j + 1) _ _ rfl ⟨by lia, by lia⟩)
                        exact mlt4 hk (by lia) (by lia)
                      · apply hB
                        dsimp only [rgo, rfd, Bended, Nat.beq, rwp, rst, lv_args, rlk, rs1, rs2, rdl, rky, rct, rcs, rcd, rno, rsw, Value.category, List.filter, List.take, List.drop, List.reverse, List.reverseAux, List.cons_append, List.nil_append, Option.toList, Int.toNat, Int.reduceToNat, if_pos, if_neg, reduceIte, ↓reduceIte, Nat.reduceAdd, Nat.reduceEqDiff, Nat.reduceBEq, beq_self_eq_true, Bool.not_true, Bool.not_false, Bool.and_true, Bool.and_false, Bool.true_and, Bool.false_and, gI_sI, gI_sL, gI_sA, gI_sM, gL_sI, gL_sL, gL_sA, gL_sM, aI_sI, aI_sL, aI_sA, aI_sM, aL_sI, aL_sL, aL_sA, aL_sM, Bended_0, Bended_2, Bended_10, Bended_19, Bended_34, Bended_49, Bended_52, Bended_66, Bended_73, Bended_77, Bended_78, Bended_91, Bended_105, Bended_108, Bended_109, Bended_115, oi_0, oi_1, P_now]; try dsimp only
                        refine ⟨rfl, rfl, (in_108 (by lia) (by lia)), rfl, (by decide), (trivial), fun w12 τ12 hq12 => ?_⟩
                        obtain ⟨r12, rfl, e12⟩ := hq12
                        obtain rfl := e12.symm
                        dsimp only [Option.toList, List.cons_append, List.nil_append, Nat.beq, gI_sI, gI_sL, gI_sA, gI_sM, gL_sI, gL_sL, gL_sA, gL_sM, aI_sI, aI_sL, aI_sA, aI_sM, aL_sI, aL_sL, aL_sA, aL_sM]
                        apply hB
                        dsimp only [rgo, rfd, Bended, Nat.beq, rwp, rst, lv_args, rlk, rs1, rs2, rdl, rky, rct, rcs, rcd, rno, rsw, Value.category, List.filter, List.take, List.drop, List.reverse, List.reverseAux, List.cons_append, List.nil_append, Option.toList, Int.toNat, Int.reduceToNat, if_pos, if_neg, reduceIte, ↓reduceIte, Nat.reduceAdd, Nat.reduceEqDiff, Nat.reduceBEq, beq_self_eq_true, Bool.not_true, Bool.not_false, Bool.and_true, Bool.and_false, Bool.true_and, Bool.false_and, gI_sI, gI_sL, gI_sA, gI_sM, gL_sI, gL_sL, gL_sA, gL_sM, aI_sI, aI_sL, aI_sA, aI_sM, aL_sI, aL_sL, aL_sA, aL_sM, Bended_0, Bended_2, Bended_10, Bended_19, Bended_34, Bended_49, Bended_52, Bended_66, Bended_73, Bended_77, Bended_78, Bended_91, Bended_105, Bended_108, Bended_109, Bended_115, oi_0, oi_1, P_now]; try dsimp only
                        refine ⟨rfl, (in_108 (by lia) (by lia)), ?_⟩
                        apply hB
                        dsimp only [rgo, rfd, Bended, Nat.beq, rwp, rst, lv_args, rlk, rs1, rs2, rdl, rky, rct, rcs, rcd, rno, rsw, Value.category, List.filter, List.take, List.drop, List.reverse, List.reverseAux, List.cons_append, List.nil_append, Option.toList, Int.toNat, Int.reduceToNat, if_pos, if_neg, reduceIte, ↓reduceIte, Nat.reduceAdd, Nat.reduceEqDiff, Nat.reduceBEq, beq_self_eq_true, Bool.not_true, Bool.not_false, Bool.and_true, Bool.and_false, Bool.true_and, Bool.false_and, gI_sI, gI_sL, gI_sA, gI_sM, gL_sI, gL_sL, gL_sA, gL_sM, aI_sI, aI_sL, aI_sA, aI_sM, aL_sI, aL_sL, aL_sA, aL_sM, Bended_0, Bended_2, Bended_10, Bended_19, Bended_34, Bended_49, Bended_52, Bended_66, Bended_73, Bended_77, Bended_78, Bended_91, Bended_105, Bended_108, Bended_109, Bended_115, oi_0, oi_1, P_now]; try dsimp only
                        rw [edn]
                        refine hW 2 [(0, .ref 1000), (1, .int k), (2, .int (j + 1))] _ _ _ (by simp [rdl, rky]) (loop _ ?_ (j + 1) _ _ rfl ⟨by lia, by lia⟩)
                        exact mlt4 hk (by lia) (by lia)
                · apply hB
                  dsimp only [rgo, rfd, Bended, Nat.beq, rwp, rst, lv_args, rlk, rs1, rs2, rdl, rky, rct, rcs, rcd, rno, rsw, Value.category, List.filter, List.take, List.drop, List.reverse, List.reverseAux, List.cons_append, List.nil_append, Option.toList, Int.toNat, Int.reduceToNat, if_pos, if_neg, reduceIte, ↓reduceIte, Nat.reduceAdd, Nat.reduceEqDiff, Nat.reduceBEq, beq_self_eq_true, Bool.not_true, Bool.not_false, Bool.and_true, Bool.and_false, Bool.true_and, Bool.false_and, gI_sI, gI_sL, gI_sA, gI_sM, gL_sI, gL_sL, gL_sA, gL_sM, aI_sI, aI_sL, aI_sA, aI_sM, aL_sI, aL_sL, aL_sA, aL_sM, Bended_0, Bended_2, Bended_10, Bended_19, Bended_34, Bended_49, Bended_52, Bended_66, Bended_73, Bended_77, Bended_78, Bended_91, Bended_105, Bended_108, Bended_109, Bended_115, oi_0, oi_1, P_now]; try dsimp only
                  apply hB
                  dsimp only [rgo, rfd, Bended, Nat.beq, rwp, rst, lv_args, rlk, rs1, rs2, rdl, rky, rct, rcs, rcd, rno, rsw, Value.category, List.filter, List.take, List.drop, List.reverse, List.reverseAux, List.cons_append, List.nil_append, Option.toList, Int.toNat, Int.reduceToNat, if_pos, if_neg, reduceIte, ↓reduceIte, Nat.reduceAdd, Nat.reduceEqDiff, Nat.reduceBEq, beq_self_eq_true, Bool.not_true, Bool.not_false, Bool.and_true, Bool.and_false, Bool.true_and, Bool.false_and, gI_sI, gI_sL, gI_sA, gI_sM, gL_sI, gL_sL, gL_sA, gL_sM, aI_sI, aI_sL, aI_sA, aI_sM, aL_sI, aL_sL, aL_sA, aL_sM, Bended_0, Bended_2, Bended_10, Bended_19, Bended_34, Bended_49, Bended_52, Bended_66, Bended_73, Bended_77, Bended_78, Bended_91, Bended_105, Bended_108, Bended_109, Bended_115, oi_0, oi_1, P_now]; try dsimp only
                  refine hW 2 [(0, .ref 1000), (1, .int k), (2, .int (j + 1))] _ _ _ (by simp [rdl, rky]) (loop _ ?_ (j + 1) f g rfl ⟨by lia, by lia⟩)
                  exact mlt4 hk (by lia) (by lia)
      apply hB
      dsimp only [rgo, rfd, Bended, Nat.beq, rwp, rst, lv_args, rlk, rs1, rs2, rdl, rky, rct, rcs, rcd, rno, rsw, Value.category, List.filter, List.take, List.drop, List.reverse, List.reverseAux, List.cons_append, List.nil_append, Option.toList, Int.toNat, Int.reduceToNat, if_pos, if_neg, reduceIte, ↓reduceIte, Nat.reduceAdd, Nat.reduceEqDiff, Nat.reduceBEq, beq_self_eq_true, Bool.not_true, Bool.not_false, Bool.and_true, Bool.and_false, Bool.true_and, Bool.false_and, gI_sI, gI_sL, gI_sA, gI_sM, gL_sI, gL_sL, gL_sA, gL_sM, aI_sI, aI_sL, aI_sA, aI_sM, aL_sI, aL_sL, aL_sA, aL_sM, Bended_0, Bended_2, Bended_10, Bended_19, Bended_34, Bended_49, Bended_52, Bended_66, Bended_73, Bended_77, Bended_78, Bended_91, Bended_105, Bended_108, Bended_109, Bended_115, oi_0, oi_1, P_now]; try dsimp only
      have e : σ = sM (sA σ 107 (aI σ 107)) 108 (aL (sA σ 107 (aI σ 107)) 108) := by rw [sM_id, sA_id]
      rw [e]
      exact hW 2 [(0, .ref 1000), (1, .int k), (2, .int 0)] _ _ _ (by simp [rdl, rky]) (loop _ 0 _ _ rfl ⟨by decide, by decide⟩)
    next => exact hP.elim
theorem m_ended (l : Launch) : RMet l 2 122 P_ended Q_ended := by
  refine RMet.by Bended [(111, P_now, Q_now)] roended okBended (ctc (m_now l) (by decide) ct0) ?_ b_ended
  · intro As σ hP
    unfold P_ended at hP
    split at hP
    next => exact Nat.le_of_ble_eq_true rfl
    next => exact hP.elim
set_option maxRecDepth 100000 in
theorem e_ended (l : Launch) : RMetE l 2 122 P_ended Q_ended := by
  refine RMetE.by Bended [(111, P_now, Q_now)] rfl rfl roended okBended (ctEc (e_now l) (by decide) ctE0) ?_ b_ended
  · intro As σ hP
    unfold P_ended at hP
    split at hP
    next => exact Nat.le_of_ble_eq_true rfl
    next => exact hP.elim
