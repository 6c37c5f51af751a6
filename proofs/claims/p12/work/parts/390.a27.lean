/-! the reference's flow as steps -/
def clfR (σ : RS) (k : Nat) : Nat → Int32 := fun q => if q < k then 0 else aI σ 109 q
theorem clf_s {σ : RS} {k : Nat} : upd (clfR σ k) k 0 = clfR σ (k + 1) := by
  funext q
  unfold clfR upd
  by_cases e : q = k
  · rw [if_pos e, if_pos (by omega)]
  · rw [if_neg e]
    show (if q < k then (0 : Int32) else aI σ 109 q) = _
    by_cases h : q < k
    · rw [if_pos h, if_pos (by omega)]
    · rw [if_neg h, if_neg (by omega)]
theorem clf_0 {σ : RS} : clfR σ 0 = aI σ 109 := by
  funext q
  exact if_neg (Nat.not_lt_zero _)
/-- where a method's codes begin -/
def sttS (σ : RS) (m : Int32) : RS := beS (sI σ 92 1) (stB σ m (gI σ 42).toInt.toNat)
/-- at first -/
def fl0 (σ : RS) : RS := sttS (sI (sI (sI (sA (sI (sI σ 112 0) 114 0) 109 (clfR σ (gI σ 2).toInt.toNat)) 103 0) 100 0) 117 (-2)) 0
/-- one code: state, code, method -/
def FlwR (σ : RS) (c m : Int32) (τ : RS) (d k : Int32) : Prop :=
  (aI σ 19 c.toNatClampNeg ≤ 18 ∧ ∃ u p : Int32, (¬ u = 0 ↔ (¬ gI σ 114 = 0 ∨ uvR σ c)) ∧ τ = fxS (unS σ u p) c ∧ d = c + 1 ∧ k = m) ∨
  (¬ aI σ 19 c.toNatClampNeg ≤ 18 ∧ ∃ u p : Int32, (¬ u = 0 ↔ (¬ gI σ 112 = 0 ∨ ltR σ c)) ∧ d = (fsS (laS σ u p) c).2 ∧
    ((¬ (¬ d ≤ 0 ∧ aI (fsS (laS σ u p) c).1 19 (d - 1).toNatClampNeg = 54) ∧ k = m ∧ τ = (fsS (laS σ u p) c).1) ∨ ((¬ d ≤ 0 ∧ aI (fsS (laS σ u p) c).1 19 (d - 1).toNatClampNeg = 54) ∧ k = m + 1 ∧ τ = sttS (fsS (laS σ u p) c).1 (m + 1))))
/-- n codes -/
def FlT (σ0 : RS) : Nat → RS → Int32 → Int32 → Prop
  | 0, σ, c, m => σ = σ0 ∧ c = 0 ∧ m = 0
  | n + 1, σ, c, m => ∃ (Y : RS) (d k : Int32), FlT σ0 n Y d k ∧ d < gI Y 18 ∧ FlwR Y d k σ c m
/-- what is told in the end -/
def flE (σ : RS) : RS := if gI σ 112 = 0 then (if gI σ 114 = 0 then σ else sI (sI σ 66 15) 67 (gI σ 115)) else sI (sI σ 66 (gI σ 112)) 67 (gI σ 113)
def Pv_flow : UP1 := fun A1 σ => match A1 with
  | [] => True
  | _ => False
def Qv_flow : UQ1 := fun A1 σ w τ => match A1 with
  | [] => w = none ∧ ∃ (n : Nat) (Y : RS) (c m : Int32), FlT (fl0 σ) n Y c m ∧ ¬ c < gI Y 18 ∧ τ = flE Y
  | _ => False
def Qw_flow : UQ1 := fun A1 σ w τ => Pv_flow A1 σ → Qv_flow A1 σ w τ
set_option maxRecDepth 100000 in
set_option maxHeartbeats 4000000 in
theorem v_flow : UMet 113 (Pv_flow) (Qv_flow) := by
  refine UMet.by Bflow [(117, (fun _ _ => True), Qw_flowExp), (121, (fun _ _ => True), Qw_flowStep), (114, (fun _ _ => True), Qw_start)] rfl (ucc w_flowExp (ucc w_flowStep (ucc w_start uc0))) ?_
  intro A1 σ hP K hB hW
  unfold Pv_flow at hP
  split at hP
  next =>
    have t58 : ∀ (N : Nat) (m c : Int32) (Y : RS) (n : Nat), FlT (fl0 σ) n Y c m → K N 58 [(0, .ref 1000), (1, .int m), (2, .int c)] [] Y := by
      intro N
      induction N using Nat.strongRecOn with
      | ind N loop =>
        intro m c Y n hT
        refine hB _ _ _ _ _ (fun m1 hm1 => ?_)
        dsimp only [ugo, uwp, ust, uct, rfd, Bflow, Bflow_58, Nat.beq, lv_args, rlk, rs1, rs2, rdl, rky, rcd, rno, rsw, Value.category, List.filter, List.take, List.drop, List.reverse, List.reverseAux, List.cons_append, List.nil_append, Option.toList, Int.toNat, Int.reduceToNat, if_pos, if_neg, reduceIte, ↓reduceIte, Nat.reduceAdd, Nat.reduceEqDiff, Nat.reduceBEq, beq_self_eq_true, Bool.not_true, Bool.not_false, Bool.and_true, Bool.and_false, Bool.true_and, Bool.false_and, gI_sI, gI_sL, gI_sA, gI_sM, gL_sI, gL_sL, gL_sA, gL_sM, aI_sI, aI_sL, aI_sA, aI_sM, aL_sI, aL_sL, aL_sA, aL_sM]; try dsimp only
        refine ⟨fun h2 => ?_, fun h2 => ?_⟩
        · refine hB _ _ _ _ _ (fun m3 hm3 => ?_)
          dsimp only [ugo, uwp, ust, uct, rfd, Bflow, Bflow_122, Nat.beq, lv_args, rlk, rs1, rs2, rdl, rky, rcd, rno, rsw, Value.category, List.filter, List.take, List.drop, List.reverse, List.reverseAux, List.cons_append, List.nil_append, Option.toList, Int.toNat, Int.reduceToNat, if_pos, if_neg, reduceIte, ↓reduceIte, Nat.reduceAdd, Nat.reduceEqDiff, Nat.reduceBEq, beq_self_eq_true, Bool.not_true, Bool.not_false, Bool.and_true, Bool.and_false, Bool.true_and, Bool.false_and, gI_sI, gI_sL, gI_sA, gI_sM, gL_sI, gL_sL, gL_sA, gL_sM, aI_sI, aI_sL, aI_sA, aI_sM, aL_sI, aL_sL, aL_sA, aL_sM]; try dsimp only
          refine ⟨fun h4 => ?_, fun h4 => ?_⟩
          · refine hB _ _ _ _ _ (fun m5 hm5 => ?_)
            dsimp only [ugo, uwp, ust, uct, rfd, Bflow, Bflow_148, Nat.beq, lv_args, rlk, rs1, rs2, rdl, rky, rcd, rno, rsw, Value.category, List.filter, List.take, List.drop, List.reverse, List.reverseAux, List.cons_append, List.nil_append, Option.toList, Int.toNat, Int.reduceToNat, if_pos, if_neg, reduceIte, ↓reduceIte, Nat.reduceAdd, Nat.reduceEqDiff, Nat.reduceBEq, beq_self_eq_true, Bool.not_true, Bool.not_false, Bool.and_true, Bool.and_false, Bool.true_and, Bool.false_and, gI_sI, gI_sL, gI_sA, gI_sM, gL_sI, gL_sL, gL_sA, gL_sM, aI_sI, aI_sL, aI_sA, aI_sM, aL_sI, aL_sL, aL_sA, aL_sM]; try dsimp only
            refine ⟨fun h6 => ?_, fun h6 => ?_⟩
            · refine hB _ _ _ _ _ (fun m7 hm7 => ?_)
              dsimp only [ugo, uwp, ust, uct, rfd, Bflow, Bflow_169, Nat.beq, lv_args, rlk, rs1, rs2, rdl, rky, rcd, rno, rsw, Value.category, List.filter, List.take, List.drop, List.reverse, List.reverseAux, List.cons_append, List.nil_append, Option.toList, Int.toNat, Int.reduceToNat, if_pos, if_neg, reduceIte, ↓reduceIte, Nat.reduceAdd, Nat.reduceEqDiff, Nat.reduceBEq, beq_self_eq_true, Bool.not_true, Bool.not_false, Bool.and_true, Bool.and_false, Bool.true_and, Bool.false_and, gI_sI, gI_sL, gI_sA, gI_sM, gL_sI, gL_sL, gL_sA, gL_sM, aI_sI, aI_sL, aI_sA, aI_sM, aL_sI, aL_sL, aL_sA, aL_sM]; try dsimp only
              unfold Qv_flow
              try dsimp only
              exact ⟨rfl, n, Y, c, m, hT, by first | assumption | exact Int32.not_lt.mpr (by assumption), by unfold flE; rw [if_pos (by assumption), if_pos (by assumption)]⟩
            · refine hB _ _ _ _ _ (fun m8 hm8 => ?_)
              dsimp only [ugo, uwp, ust, uct, rfd, Bflow, Bflow_155, Nat.beq, lv_args, rlk, rs1, rs2, rdl, rky, rcd, rno, rsw, Value.category, List.filter, List.take, List.drop, List.reverse, List.reverseAux, List.cons_append, List.nil_append, Option.toList, Int.toNat, Int.reduceToNat, if_pos, if_neg, reduceIte, ↓reduceIte, Nat.reduceAdd, Nat.reduceEqDiff, Nat.reduceBEq, beq_self_eq_true, Bool.not_true, Bool.not_false, Bool.and_true, Bool.and_false, Bool.true_and, Bool.false_and, gI_sI, gI_sL, gI_sA, gI_sM, gL_sI, gL_sL, gL_sA, gL_sM, aI_sI, aI_sL, aI_sA, aI_sM, aL_sI, aL_sL, aL_sA, aL_sM, oi_15]; try dsimp only
              refine hB _ _ _ _ _ (fun m9 hm9 => ?_)
              dsimp only [ugo, uwp, ust, uct, rfd, Bflow, Bflow_169, Nat.beq, lv_args, rlk, rs1, rs2, rdl, rky, rcd, rno, rsw, Value.category, List.filter, List.take, List.drop, List.reverse, List.reverseAux, List.cons_append, List.nil_append, Option.toList, Int.toNat, Int.reduceToNat, if_pos, if_neg, reduceIte, ↓reduceIte, Nat.reduceAdd, Nat.reduceEqDiff, Nat.reduceBEq, beq_self_eq_true, Bool.not_true, Bool.not_false, Bool.and_true, Bool.and_false, Bool.true_and, Bool.false_and, gI_sI, gI_sL, gI_sA, gI_sM, gL_sI, gL_sL, gL_sA, gL_sM, aI_sI, aI_sL, aI_sA, aI_sM, aL_sI, aL_sL, aL_sA, aL_sM]; try dsimp only
              unfold Qv_flow
              try dsimp only
              exact ⟨rfl, n, Y, c, m, hT, by first | assumption | exact Int32.not_lt.mpr (by assumption), by unfold flE; rw [if_pos (by assumption), if_neg (by assumption)]⟩
          · refine hB _ _ _ _ _ (fun m10 hm10 => ?_)
            dsimp only [ugo, uwp, ust, uct, rfd, Bflow, Bflow_129, Nat.beq, lv_args, rlk, rs1, rs2, rdl, rky, rcd, rno, rsw, Value.category, List.filter, List.take, List.drop, List.reverse, List.reverseAux, List.cons_append, List.nil_append, Option.toList, Int.toNat, Int.reduceToNat, if_pos, if_neg, reduceIte, ↓reduceIte, Nat.reduceAdd, Nat.reduceEqDiff, Nat.reduceBEq, beq_self_eq_true, Bool.not_true, Bool.not_false, Bool.and_true, Bool.and_false, Bool.true_and, Bool.false_and, gI_sI, gI_sL, gI_sA, gI_sM, gL_sI, gL_sL, gL_sA, gL_sM, aI_sI, aI_sL, aI_sA, aI_sM, aL_sI, aL_sL, aL_sA, aL_sM]; try dsimp only
            refine hB _ _ _ _ _ (fun m11 hm11 => ?_)
            dsimp only [ugo, uwp, ust, uct, rfd, Bflow, Bflow_169, Nat.beq, lv_args, rlk, rs1, rs2, rdl, rky, rcd, rno, rsw, Value.category, List.filter, List.take, List.drop, List.reverse, List.reverseAux, List.cons_append, List.nil_append, Option.toList, Int.toNat, Int.reduceToNat, if_pos, if_neg, reduceIte, ↓reduceIte, Nat.reduceAdd, Nat.reduceEqDiff, Nat.reduceBEq, beq_self_eq_true, Bool.not_true, Bool.not_false, Bool.and_true, Bool.and_false, Bool.true_and, Bool.false_and, gI_sI, gI_sL, gI_sA, gI_sM, gL_sI, gL_sL, gL_sA, gL_sM, aI_sI, aI_sL, aI_sA, aI_sM, aL_sI, aL_sL, aL_sA, aL_sM]; try dsimp only
            unfold Qv_flow
            try dsimp only
            exact ⟨rfl, n, Y, c, m, hT, by first | assumption | exact Int32.not_lt.mpr (by assumption), by unfold flE; rw [if_neg (by assumption)]⟩
        · refine hB _ _ _ _ _ (fun m12 hm12 => ?_)
          dsimp only [ugo, uwp, ust, uct, rfd, Bflow, Bflow_66, Nat.beq, lv_args, rlk, rs1, rs2, rdl, rky, rcd, rno, rsw, Value.category, List.filter, List.take, List.drop, List.reverse, List.reverseAux, List.cons_append, List.nil_append, Option.toList, Int.toNat, Int.reduceToNat, if_pos, if_neg, reduceIte, ↓reduceIte, Nat.reduceAdd, Nat.reduceEqDiff, Nat.reduceBEq, beq_self_eq_true, Bool.not_true, Bool.not_false, Bool.and_true, Bool.and_false, Bool.true_and, Bool.false_and, gI_sI, gI_sL, gI_sA, gI_sM, gL_sI, gL_sL, gL_sA, gL_sM, aI_sI, aI_sL, aI_sA, aI_sM, aL_sI, aL_sL, aL_sA, aL_sM, oi_18]; try dsimp only
          intro p13
          refine ⟨fun h14 => ?_, fun h14 => ?_⟩
          · refine hB _ _ _ _ _ (fun m15 hm15 => ?_)
            dsimp only [ugo, uwp, ust, uct, rfd, Bflow, Bflow_88, Nat.beq, lv_args, rlk, rs1, rs2, rdl, rky, rcd, rno, rsw, Value.category, List.filter, List.take, List.drop, List.reverse, List.reverseAux, List.cons_append, List.nil_append, Option.toList, Int.toNat, Int.reduceToNat, if_pos, if_neg, reduceIte, ↓reduceIte, Nat.reduceAdd, Nat.reduceEqDiff, Nat.reduceBEq, beq_self_eq_true, Bool.not_true, Bool.not_false, Bool.and_true, Bool.and_false, Bool.true_and, Bool.false_and, gI_sI, gI_sL, gI_sA, gI_sM, gL_sI, gL_sL, gL_sA, gL_sM, aI_sI, aI_sL, aI_sA, aI_sM, aL_sI, aL_sL, aL_sA, aL_sM]; try dsimp only
            refine ⟨trivial, fun w16 τ16 hq16 => ?_⟩
            obtain ⟨u16, p16_, hu16, rfl, rfl⟩ := hq16 trivial
            dsimp only [Option.toList, List.cons_append, List.nil_append, Nat.beq, gI_sI, gI_sL, gI_sA, gI_sM, gL_sI, gL_sL, gL_sA, gL_sM, aI_sI, aI_sL, aI_sA, aI_sM, aL_sI, aL_sL, aL_sA, aL_sM]
            refine ⟨fun h17 => ?_, fun h17 => ?_⟩
            · exact hW _ 58 [(0, .ref 1000), (1, .int m), (2, .int (fsS (laS Y u16 p16_) c).2)] _ _ _ (by simp [rdl, rky, Value.category]) (loop _ (by omega) m (fsS (laS Y u16 p16_) c).2 _ (n + 1) ⟨Y, c, m, hT, by first | assumption | exact Int32.not_le.mp (by assumption), Or.inr ⟨(by first | assumption | exact Int32.not_le.mpr (by assumption)), u16, p16_, hu16, rfl, Or.inl ⟨fun q => by obtain ⟨q1, q2⟩ := q; contradiction, rfl, rfl⟩⟩⟩)
            · refine hB _ _ _ _ _ (fun m18 hm18 => ?_)
              dsimp only [ugo, uwp, ust, uct, rfd, Bflow, Bflow_98, Nat.beq, lv_args, rlk, rs1, rs2, rdl, rky, rcd, rno, rsw, Value.category, List.filter, List.take, List.drop, List.reverse, List.reverseAux, List.cons_append, List.nil_append, Option.toList, Int.toNat, Int.reduceToNat, if_pos, if_neg, reduceIte, ↓reduceIte, Nat.reduceAdd, Nat.reduceEqDiff, Nat.reduceBEq, beq_self_eq_true, Bool.not_true, Bool.not_false, Bool.and_true, Bool.and_false, Bool.true_and, Bool.false_and, gI_sI, gI_sL, gI_sA, gI_sM, gL_sI, gL_sL, gL_sA, gL_sM, aI_sI, aI_sL, aI_sA, aI_sM, aL_sI, aL_sL, aL_sA, aL_sM, oi_1, oi_54]; try dsimp only
              intro p19
              refine ⟨fun h20 => ?_, fun h20 => ?_⟩
              · exact hW _ 58 [(0, .ref 1000), (1, .int m), (2, .int (fsS (laS Y u16 p16_) c).2)] _ _ _ (by simp [rdl, rky, Value.category]) (loop _ (by omega) m (fsS (laS Y u16 p16_) c).2 _ (n + 1) ⟨Y, c, m, hT, by first | assumption | exact Int32.not_le.mp (by assumption), Or.inr ⟨(by first | assumption | exact Int32.not_le.mpr (by assumption)), u16, p16_, hu16, rfl, Or.inl ⟨fun q => by obtain ⟨q1, q2⟩ := q; contradiction, rfl, rfl⟩⟩⟩)
              · refine hB _ _ _ _ _ (fun m21 hm21 => ?_)
                dsimp only [ugo, uwp, ust, uct, rfd, Bflow, Bflow_111, Nat.beq, lv_args, rlk, rs1, rs2, rdl, rky, rcd, rno, rsw, Value.category, List.filter, List.take, List.drop, List.reverse, List.reverseAux, List.cons_append, List.nil_append, Option.toList, Int.toNat, Int.reduceToNat, if_pos, if_neg, reduceIte, ↓reduceIte, Nat.reduceAdd, Nat.reduceEqDiff, Nat.reduceBEq, beq_self_eq_true, Bool.not_true, Bool.not_false, Bool.and_true, Bool.and_false, Bool.true_and, Bool.false_and, gI_sI, gI_sL, gI_sA, gI_sM, gL_sI, gL_sL, gL_sA, gL_sM, aI_sI, aI_sL, aI_sA, aI_sM, aL_sI, aL_sL, aL_sA, aL_sM, oi_1]; try dsimp only
                refine ⟨trivial, fun w22 τ22 hq22 => ?_⟩
                obtain ⟨rfl, rfl⟩ := hq22 trivial
                dsimp only [Option.toList, List.cons_append, List.nil_append, Nat.beq, gI_sI, gI_sL, gI_sA, gI_sM, gL_sI, gL_sL, gL_sA, gL_sM, aI_sI, aI_sL, aI_sA, aI_sM, aL_sI, aL_sL, aL_sA, aL_sM]
                exact hW _ 58 [(0, .ref 1000), (1, .int (m + 1)), (2, .int (fsS (laS Y u16 p16_) c).2)] _ _ _ (by simp [rdl, rky, Value.category]) (loop _ (by omega) (m + 1) (fsS (laS Y u16 p16_) c).2 _ (n + 1) ⟨Y, c, m, hT, by first | assumption | exact Int32.not_le.mp (by assumption), Or.inr ⟨(by first | assumption | exact Int32.not_le.mpr (by assumption)), u16, p16_, hu16, rfl, Or.inr ⟨⟨by assumption, by assumption⟩, rfl, rfl⟩⟩⟩)
          · refine hB _ _ _ _ _ (fun m23 hm23 => ?_)
            dsimp only [ugo, uwp, ust, uct, rfd, Bflow, Bflow_77, Nat.beq, lv_args, rlk, rs1, rs2, rdl, rky, rcd, rno, rsw, Value.category, List.filter, List.take, List.drop, List.reverse, List.reverseAux, List.cons_append, List.nil_append, Option.toList, Int.toNat, Int.reduceToNat, if_pos, if_neg, reduceIte, ↓reduceIte, Nat.reduceAdd, Nat.reduceEqDiff, Nat.reduceBEq, beq_self_eq_true, Bool.not_true, Bool.not_false, Bool.and_true, Bool.and_false, Bool.true_and, Bool.false_and, gI_sI, gI_sL, gI_sA, gI_sM, gL_sI, gL_sL, gL_sA, gL_sM, aI_sI, aI_sL, aI_sA, aI_sM, aL_sI, aL_sL, aL_sA, aL_sM, oi_1]; try dsimp only
            refine ⟨trivial, fun w24 τ24 hq24 => ?_⟩
            obtain ⟨rfl, u24, p24_, hu24, rfl⟩ := hq24 trivial
            dsimp only [Option.toList, List.cons_append, List.nil_append, Nat.beq, gI_sI, gI_sL, gI_sA, gI_sM, gL_sI, gL_sL, gL_sA, gL_sM, aI_sI, aI_sL, aI_sA, aI_sM, aL_sI, aL_sL, aL_sA, aL_sM]
            exact hW _ 58 [(0, .ref 1000), (1, .int m), (2, .int (c + 1))] _ _ _ (by simp [rdl, rky, Value.category]) (loop _ (by omega) m (c + 1) _ (n + 1) ⟨Y, c, m, hT, by first | assumption | exact Int32.not_le.mp (by assumption), Or.inl ⟨by first | assumption | exact Int32.not_lt.mp (by assumption), u24, p24_, hu24, rfl, rfl, rfl⟩⟩)
    have t12 : ∀ (N : Nat) (i : Int32) (k : Nat) (f : Nat → Int32), i.toInt = (k : Int) → (k : Int) ≤ max 0 (gI σ 2).toInt → f = clfR σ k → K N 12 [(0, .ref 1000), (1, .int i)] [] (sA (sI (sI σ 112 0) 114 0) 109 f) := by
      intro N
      induction N using Nat.strongRecOn with
      | ind N loop =>
        intro i k f hi hk hf
        refine hB _ _ _ _ _ (fun m1 hm1 => ?_)
        dsimp only [ugo, uwp, ust, uct, rfd, Bflow, Bflow_12, Nat.beq, lv_args, rlk, rs1, rs2, rdl, rky, rcd, rno, rsw, Value.category, List.filter, List.take, List.drop, List.reverse, List.reverseAux, List.cons_append, List.nil_append, Option.toList, Int.toNat, Int.reduceToNat, if_pos, if_neg, reduceIte, ↓reduceIte, Nat.reduceAdd, Nat.reduceEqDiff, Nat.reduceBEq, beq_self_eq_true, Bool.not_true, Bool.not_false, Bool.and_true, Bool.and_false, Bool.true_and, Bool.false_and, gI_sI, gI_sL, gI_sA, gI_sM, gL_sI, gL_sL, gL_sA, gL_sM, aI_sI, aI_sL, aI_sA, aI_sM, aL_sI, aL_sL, aL_sA, aL_sM]; try dsimp only
        refine ⟨fun h2 => ?_, fun h2 => ?_⟩
        · have c2 : (gI σ 2).toInt ≤ (k : Int) := (cI hi (rfl : (gI σ 2).toInt = (gI σ 2).toInt)).2.2.2.2.mp h2
          refine hB _ _ _ _ _ (fun m3 hm3 => ?_)
          dsimp only [ugo, uwp, ust, uct, rfd, Bflow, Bflow_33, Nat.beq, lv_args, rlk, rs1, rs2, rdl, rky, rcd, rno, rsw, Value.category, List.filter, List.take, List.drop, List.reverse, List.reverseAux, List.cons_append, List.nil_append, Option.toList, Int.toNat, Int.reduceToNat, if_pos, if_neg, reduceIte, ↓reduceIte, Nat.reduceAdd, Nat.reduceEqDiff, Nat.reduceBEq, beq_self_eq_true, Bool.not_true, Bool.not_false, Bool.and_true, Bool.and_false, Bool.true_and, Bool.false_and, gI_sI, gI_sL, gI_sA, gI_sM, gL_sI, gL_sL, gL_sA, gL_sM, aI_sI, aI_sL, aI_sA, aI_sM, aL_sI, aL_sL, aL_sA, aL_sM, oi_0, oi_m2]; try dsimp only
          refine ⟨trivial, fun w4 τ4 hq4 => ?_⟩
          obtain ⟨rfl, rfl⟩ := hq4 trivial
          dsimp only [Option.toList, List.cons_append, List.nil_append, Nat.beq, gI_sI, gI_sL, gI_sA, gI_sM, gL_sI, gL_sL, gL_sA, gL_sM, aI_sI, aI_sL, aI_sA, aI_sM, aL_sI, aL_sL, aL_sA, aL_sM]
          have ek : k = (gI σ 2).toInt.toNat := by omega
          rw [hf, ek]
          exact hW _ 58 [(0, .ref 1000), (1, .int 0), (2, .int 0)] _ _ _ (by simp [rdl, rky, Value.category]) (t58 _ 0 0 _ 0 ⟨rfl, rfl, rfl⟩)
        · have c2 : (k : Int) < (gI σ 2).toInt := (cI hi (rfl : (gI σ 2).toInt = (gI σ 2).toInt)).2.1.mp (by first | exact h2 | exact Int32.not_lt.mp h2 | exact Int32.not_le.mp h2)
          refine hB _ _ _ _ _ (fun m5 hm5 => ?_)
          dsimp only [ugo, uwp, ust, uct, rfd, Bflow, Bflow_20, Nat.beq, lv_args, rlk, rs1, rs2, rdl, rky, rcd, rno, rsw, Value.category, List.filter, List.take, List.drop, List.reverse, List.reverseAux, List.cons_append, List.nil_append, Option.toList, Int.toNat, Int.reduceToNat, if_pos, if_neg, reduceIte, ↓reduceIte, Nat.reduceAdd, Nat.reduceEqDiff, Nat.reduceBEq, beq_self_eq_true, Bool.not_true, Bool.not_false, Bool.and_true, Bool.and_false, Bool.true_and, Bool.false_and, gI_sI, gI_sL, gI_sA, gI_sM, gL_sI, gL_sL, gL_sA, gL_sM, aI_sI, aI_sL, aI_sA, aI_sM, aL_sI, aL_sL, aL_sA, aL_sM, oi_0, oi_1]; try dsimp only
          intro p6
          have ii := i32_1 (v := i) hi (by have := (gI σ 2).toInt_lt; omega) (by omega)
          rw [sA_sA, hf, show i.toNatClampNeg = k from nT_x hi, clf_s]
          exact hW _ 12 [(0, .ref 1000), (1, .int (i + 1))] _ _ _ (by simp [rdl, rky, Value.category]) (loop _ (by omega) (i + 1) (k + 1) _ (by omega) (by omega) rfl)
    intro n0
    refine hB _ _ _ _ _ (fun m1 hm1 => ?_)
    dsimp only [ugo, uwp, ust, uct, rfd, Bflow, Bflow_0, Nat.beq, lv_args, rlk, rs1, rs2, rdl, rky, rcd, rno, rsw, Value.category, List.filter, List.take, List.drop, List.reverse, List.reverseAux, List.cons_append, List.nil_append, Option.toList, Int.toNat, Int.reduceToNat, if_pos, if_neg, reduceIte, ↓reduceIte, Nat.reduceAdd, Nat.reduceEqDiff, Nat.reduceBEq, beq_self_eq_true, Bool.not_true, Bool.not_false, Bool.and_true, Bool.and_false, Bool.true_and, Bool.false_and, gI_sI, gI_sL, gI_sA, gI_sM, gL_sI, gL_sL, gL_sA, gL_sM, aI_sI, aI_sL, aI_sA, aI_sM, aL_sI, aL_sL, aL_sA, aL_sM, oi_0]; try dsimp only
    have z := t12 m1 0 0 (aI σ 109) rfl (by omega) clf_0.symm
    rw [show ((sA (sI (sI σ 112 0) 114 0) 109 (aI σ 109)) : RS) = (sI (sI σ 112 0) 114 0) from (sA_id (σ := (sI (sI σ 112 0) 114 0)) (k := 109))] at z
    exact hW _ 12 [(0, .ref 1000), (1, .int 0)] _ _ _ (by simp [rdl, rky, Value.category]) z
  next => exact hP.elim
theorem w_flow : UMet 113 (fun _ _ => True) Qw_flow := fun A1 σ _ w τ h hP => v_flow A1 σ hP w τ h
