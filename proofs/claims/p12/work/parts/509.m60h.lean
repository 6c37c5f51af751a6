/-! run: it judges, and leaves the program alone -/
def bnF (k : Nat) : Bool := k == 1 || k == 68
theorem F8.mk {σ τ : RS} (hi : ∀ k, k < 118 → ¬ k = 1 → gI τ k = gI σ k) (ha : ∀ k, k < 118 → ¬ k = 0 → aI τ k = aI σ k) (hl : ∀ k, k < 118 → aL τ k = aL σ k) : F8 σ τ := ⟨⟨fun k a b _ => hi k a b, ha, hl⟩, hi 68 (by decide) (by decide)⟩
theorem F8.rr {σ τ : RS} (h : Rf σ τ) : F8 σ τ := F8.mk (fun k a _ => h.1 k (by
  unfold iRf
  simp only [Bool.or_eq_false_iff, Bool.and_eq_false_imp, decide_eq_true_eq, decide_eq_false_iff_not, beq_eq_false_iff_ne, ne_eq]
  omega)) (fun k a _ => h.2.2.1 k (by
  unfold aRf
  simp only [Bool.or_eq_false_iff, Bool.and_eq_false_imp, decide_eq_true_eq, decide_eq_false_iff_not, beq_eq_false_iff_ne, ne_eq]
  omega)) (fun k a => h.2.2.2 k (by
  unfold lRf
  simp only [Bool.or_eq_false_iff, beq_eq_false_iff_ne, ne_eq]
  omega))
theorem F8.fz {σ τ : RS} (h : Fz σ τ) : F8 σ τ := F8.mk (fun k a _ => h.1 k (by
  unfold iFz
  simp only [Bool.or_eq_false_iff, Bool.and_eq_false_imp, decide_eq_true_eq, decide_eq_false_iff_not, beq_eq_false_iff_ne, ne_eq]
  omega)) (fun k a _ => h.2.2.1 k (by
  unfold aFz
  simp only [Bool.or_eq_false_iff, Bool.and_eq_false_imp, decide_eq_true_eq, decide_eq_false_iff_not, beq_eq_false_iff_ne, ne_eq]
  omega)) (fun k a => h.2.2.2 k (by
  unfold lFz
  simp only [Bool.or_eq_false_iff, beq_eq_false_iff_ne, ne_eq]
  omega))
theorem F8.lq {σ τ : RS} (h : LQ σ τ) : F8 σ τ := F8.mk (fun k _ _ => h.1 k) (fun k a _ => h.2.2.1 k (by omega) (by omega)) (fun k _ => h.2.2.2.1 k)
/-- judged, if it was not; then the program stands -/
def HX (σ τ : RS) : Prop := ∃ (X : RS) (b : Int32), EvM 125 [] σ (some (.int b)) X ∧ F8 X τ
theorem HX.tr {σ τ υ : RS} (h : HX σ τ) (g : F8 τ υ) : HX σ υ := h.elim (fun X q => q.elim (fun b q => ⟨X, b, q.1, q.2.tr g⟩))
def P_isGoodE : RP := fun As σ => P_isGood As σ
def Q_isGoodE : RQ := fun As σ w τ => Q_isGood As σ w τ ∧ EvM 125 As σ w τ
theorem m_isGoodE (l : Launch) : RMet l 7 125 P_isGoodE Q_isGoodE := e_isGood l
def P_runh : RP := fun As σ => match As with
  | [.int m, .int limit] => IG σ ∧ (0 ≤ (gI σ 123) ∧ (gI σ 123) ≤ 40) ∧ (0 ≤ (gI σ 148) ∧ (gI σ 148) ≤ 200)
  | _ => False
def Q_runh : RQ := fun As σ w τ => match As with
  | [.int m, .int limit] => ∃ r : Int32, w = some (.int r) ∧ (τ = σ ∨ (JD τ ∧ (Fo σ τ ∧ HX σ τ) ∧ 0 ≤ (gI τ 148) ∧ (gI τ 148) ≤ 200))
  | _ => False
set_option maxRecDepth 100000 in
set_option maxHeartbeats 4000000 in
theorem m_runh (l : Launch) : RMet l 8 151 P_runh Q_runh := by
  refine RMet.by Brun [(150, P_begin, Q_begin), (76, P_cast, Q_cast), (145, P_count1, Q_count1), (125, P_isGoodE, Q_isGoodE), (142, P_links, Q_links), (152, P_work, Q_work)] rorun okBrun (ctc (m_begin l) (by decide) (ctc (m_cast l) (by decide) (ctc (m_count1 l) (by decide) (ctc (m_isGoodE l) (by decide) (ctc (m_links l) (by decide) (ctc (m_work l) (by decide) ct0)))))) ?_ ?_
  · intro As σ hP
    unfold P_runh at hP
    split at hP
    next => exact Nat.le_of_ble_eq_true rfl
    next => exact hP.elim
  · intro As σ hP G hB hW
    unfold P_runh at hP
    split at hP
    next m limit => 
      unfold Q_runh at hB
      dsimp only at hB
      obtain ⟨hIG, hin, hto⟩ := hP
      have t195 : ∀ S : RS, (Fo σ S ∧ HX σ S) → ∀ X : RS, ¬ gI X 142 = 0 → RLw S X → G 177 [(0, .ref 1000), (1, .int m), (2, .int limit)] [] X := by
        intro S hSo X h0 hr
        apply hB
        dsimp only [rgo, rfd, Brun, Nat.beq, rwp, rst, lv_args, rlk, rs1, rs2, rdl, rky, rct, rcs, rcd, rno, rsw, Value.category, List.filter, List.take, List.drop, List.reverse, List.reverseAux, List.cons_append, List.nil_append, Option.toList, Int.toNat, Int.reduceToNat, if_pos, if_neg, reduceIte, ↓reduceIte, Nat.reduceAdd, Nat.reduceEqDiff, Nat.reduceBEq, beq_self_eq_true, Bool.not_true, Bool.not_false, Bool.and_true, Bool.and_false, Bool.true_and, Bool.false_and, gI_sI, gI_sL, gI_sA, gI_sM, gL_sI, gL_sL, gL_sA, gL_sM, aI_sI, aI_sL, aI_sA, aI_sM, aL_sI, aL_sL, aL_sA, aL_sM, P_isGood, Brun_0, Brun_4, Brun_12, Brun_17, Brun_24, Brun_26, Brun_33, Brun_36, Brun_103, Brun_113, Brun_115, Brun_125, Brun_167, Brun_177, Brun_184, Brun_195, Brun_203, Brun_212, Brun_217, Brun_226, Brun_230, Brun_234, oi_0, oi_1, oi_10, oi_2, oi_20000, oi_m1, oi_m2, P_begin, P_cast, P_count1, P_isGoodE, P_links, P_work]; try dsimp only
        refine ⟨rfl, fun h1 => ?_, fun h1 => ?_⟩
        · apply hB
          dsimp only [rgo, rfd, Brun, Nat.beq, rwp, rst, lv_args, rlk, rs1, rs2, rdl, rky, rct, rcs, rcd, rno, rsw, Value.category, List.filter, List.take, List.drop, List.reverse, List.reverseAux, List.cons_append, List.nil_append, Option.toList, Int.toNat, Int.reduceToNat, if_pos, if_neg, reduceIte, ↓reduceIte, Nat.reduceAdd, Nat.reduceEqDiff, Nat.reduceBEq, beq_self_eq_true, Bool.not_true, Bool.not_false, Bool.and_true, Bool.and_false, Bool.true_and, Bool.false_and, gI_sI, gI_sL, gI_sA, gI_sM, gL_sI, gL_sL, gL_sA, gL_sM, aI_sI, aI_sL, aI_sA, aI_sM, aL_sI, aL_sL, aL_sA, aL_sM, P_isGood, Brun_0, Brun_4, Brun_12, Brun_17, Brun_24, Brun_26, Brun_33, Brun_36, Brun_103, Brun_113, Brun_115, Brun_125, Brun_167, Brun_177, Brun_184, Brun_195, Brun_203, Brun_212, Brun_217, Brun_226, Brun_230, Brun_234, oi_0, oi_1, oi_10, oi_2, oi_20000, oi_m1, oi_m2, P_begin, P_cast, P_count1, P_isGoodE, P_links, P_work]; try dsimp only
          refine ⟨rfl, fun h2 => ?_, fun h2 => ?_⟩
          · apply hB
            dsimp only [rgo, rfd, Brun, Nat.beq, rwp, rst, lv_args, rlk, rs1, rs2, rdl, rky, rct, rcs, rcd, rno, rsw, Value.category, List.filter, List.take, List.drop, List.reverse, List.reverseAux, List.cons_append, List.nil_append, Option.toList, Int.toNat, Int.reduceToNat, if_pos, if_neg, reduceIte, ↓reduceIte, Nat.reduceAdd, Nat.reduceEqDiff, Nat.reduceBEq, beq_self_eq_true, Bool.not_true, Bool.not_false, Bool.and_true, Bool.and_false, Bool.true_and, Bool.false_and, gI_sI, gI_sL, gI_sA, gI_sM, gL_sI, gL_sL, gL_sA, gL_sM, aI_sI, aI_sL, aI_sA, aI_sM, aL_sI, aL_sL, aL_sA, aL_sM, P_isGood, Brun_0, Brun_4, Brun_12, Brun_17, Brun_24, Brun_26, Brun_33, Brun_36, Brun_103, Brun_113, Brun_115, Brun_125, Brun_167, Brun_177, Brun_184, Brun_195, Brun_203, Brun_212, Brun_217, Brun_226, Brun_230, Brun_234, oi_0, oi_1, oi_10, oi_2, oi_20000, oi_m1, oi_m2, P_begin, P_cast, P_count1, P_isGoodE, P_links, P_work]; try dsimp only
            refine ⟨rfl, fun h3 => ?_, fun h3 => ?_⟩
            · apply hB
              dsimp only [rgo, rfd, Brun, Nat.beq, rwp, rst, lv_args, rlk, rs1, rs2, rdl, rky, rct, rcs, rcd, rno, rsw, Value.category, List.filter, List.take, List.drop, List.reverse, List.reverseAux, List.cons_append, List.nil_append, Option.toList, Int.toNat, Int.reduceToNat, if_pos, if_neg, reduceIte, ↓reduceIte, Nat.reduceAdd, Nat.reduceEqDiff, Nat.reduceBEq, beq_self_eq_true, Bool.not_true, Bool.not_false, Bool.and_true, Bool.and_false, Bool.true_and, Bool.false_and, gI_sI, gI_sL, gI_sA, gI_sM, gL_sI, gL_sL, gL_sA, gL_sM, aI_sI, aI_sL, aI_sA, aI_sM, aL_sI, aL_sL, aL_sA, aL_sM, P_isGood, Brun_0, Brun_4, Brun_12, Brun_17, Brun_24, Brun_26, Brun_33, Brun_36, Brun_103, Brun_113, Brun_115, Brun_125, Brun_167, Brun_177, Brun_184, Brun_195, Brun_203, Brun_212, Brun_217, Brun_226, Brun_230, Brun_234, oi_0, oi_1, oi_10, oi_2, oi_20000, oi_m1, oi_m2, P_begin, P_cast, P_count1, P_isGoodE, P_links, P_work]; try dsimp only
              refine ⟨rfl, ?_⟩
              apply hB
              dsimp only [rgo, rfd, Brun, Nat.beq, rwp, rst, lv_args, rlk, rs1, rs2, rdl, rky, rct, rcs, rcd, rno, rsw, Value.category, List.filter, List.take, List.drop, List.reverse, List.reverseAux, List.cons_append, List.nil_append, Option.toList, Int.toNat, Int.reduceToNat, if_pos, if_neg, reduceIte, ↓reduceIte, Nat.reduceAdd, Nat.reduceEqDiff, Nat.reduceBEq, beq_self_eq_true, Bool.not_true, Bool.not_false, Bool.and_true, Bool.and_false, Bool.true_and, Bool.false_and, gI_sI, gI_sL, gI_sA, gI_sM, gL_sI, gL_sL, gL_sA, gL_sM, aI_sI, aI_sL, aI_sA, aI_sM, aL_sI, aL_sL, aL_sA, aL_sM, P_isGood, Brun_0, Brun_4, Brun_12, Brun_17, Brun_24, Brun_26, Brun_33, Brun_36, Brun_103, Brun_113, Brun_115, Brun_125, Brun_167, Brun_177, Brun_184, Brun_195, Brun_203, Brun_212, Brun_217, Brun_226, Brun_230, Brun_234, oi_0, oi_1, oi_10, oi_2, oi_20000, oi_m1, oi_m2, P_begin, P_cast, P_count1, P_isGoodE, P_links, P_work]; try dsimp only
              refine ⟨trivial, ?_⟩
              exact ⟨_, rfl, Or.inr ⟨hr.1.1.1, ⟨hSo.1.tr hr.1.2.2.o, hSo.2.tr (F8.fz hr.1.2.2)⟩, hr.1.2.1.2.1.1, hr.1.2.1.2.1.2⟩⟩
            · apply hB
              dsimp only [rgo, rfd, Brun, Nat.beq, rwp, rst, lv_args, rlk, rs1, rs2, rdl, rky, rct, rcs, rcd, rno, rsw, Value.category, List.filter, List.take, List.drop, List.reverse, List.reverseAux, List.cons_append, List.nil_append, Option.toList, Int.toNat, Int.reduceToNat, if_pos, if_neg, reduceIte, ↓reduceIte, Nat.reduceAdd, Nat.reduceEqDiff, Nat.reduceBEq, beq_self_eq_true, Bool.not_true, Bool.not_false, Bool.and_true, Bool.and_false, Bool.true_and, Bool.false_and, gI_sI, gI_sL, gI_sA, gI_sM, gL_sI, gL_sL, gL_sA, gL_sM, aI_sI, aI_sL, aI_sA, aI_sM, aL_sI, aL_sL, aL_sA, aL_sM, P_isGood, Brun_0, Brun_4, Brun_12, Brun_17, Brun_24, Brun_26, Brun_33, Brun_36, Brun_103, Brun_113, Brun_115, Brun_125, Brun_167, Brun_177, Brun_184, Brun_195, Brun_203, Brun_212, Brun_217, Brun_226, Brun_230, Brun_234, oi_0, oi_1, oi_10, oi_2, oi_20000, oi_m1, oi_m2, P_begin, P_cast, P_count1, P_isGoodE, P_links, P_work]; try dsimp only
              apply hB
              dsimp only [rgo, rfd, Brun, Nat.beq, rwp, rst, lv_args, rlk, rs1, rs2, rdl, rky, rct, rcs, rcd, rno, rsw, Value.category, List.filter, List.take, List.drop, List.reverse, List.reverseAux, List.cons_append, List.nil_append, Option.toList, Int.toNat, Int.reduceToNat, if_pos, if_neg, reduceIte, ↓reduceIte, Nat.reduceAdd, Nat.reduceEqDiff, Nat.reduceBEq, beq_self_eq_true, Bool.not_true, Bool.not_false, Bool.and_true, Bool.and_false, Bool.true_and, Bool.false_and, gI_sI, gI_sL, gI_sA, gI_sM, gL_sI, gL_sL, gL_sA, gL_sM, aI_sI, aI_sL, aI_sA, aI_sM, aL_sI, aL_sL, aL_sA, aL_sM, P_isGood, Brun_0, Brun_4, Brun_12, Brun_17, Brun_24, Brun_26, Brun_33, Brun_36, Brun_103, Brun_113, Brun_115, Brun_125, Brun_167, Brun_177, Brun_184, Brun_195, Brun_203, Brun_212, Brun_217, Brun_226, Brun_230, Brun_234, oi_0, oi_1, oi_10, oi_2, oi_20000, oi_m1, oi_m2, P_begin, P_cast, P_count1, P_isGoodE, P_links, P_work]; try dsimp only
              refine ⟨trivial, ?_⟩
              exact ⟨_, rfl, Or.inr ⟨hr.1.1.1, ⟨hSo.1.tr hr.1.2.2.o, hSo.2.tr (F8.fz hr.1.2.2)⟩, hr.1.2.1.2.1.1, hr.1.2.1.2.1.2⟩⟩
          · apply hB
            dsimp only [rgo, rfd, Brun, Nat.beq, rwp, rst, lv_args, rlk, rs1, rs2, rdl, rky, rct, rcs, rcd, rno, rsw, Value.category, List.filter, List.take, List.drop, List.reverse, List.reverseAux, List.cons_append, List.nil_append, Option.toList, Int.toNat, Int.reduceToNat, if_pos, if_neg, reduceIte, ↓reduceIte, Nat.reduceAdd, Nat.reduceEqDiff, Nat.reduceBEq, beq_self_eq_true, Bool.not_true, Bool.not_false, Bool.and_true, Bool.and_false, Bool.true_and, Bool.false_and, gI_sI, gI_sL, gI_sA, gI_sM, gL_sI, gL_sL, gL_sA, gL_sM, aI_sI, aI_sL, aI_sA, aI_sM, aL_sI, aL_sL, aL_sA, aL_sM, P_isGood, Brun_0, Brun_4, Brun_12, Brun_17, Brun_24, Brun_26, Brun_33, Brun_36, Brun_103, Brun_113, Brun_115, Brun_125, Brun_167, Brun_177, Brun_184, Brun_195, Brun_203, Brun_212, Brun_217, Brun_226, Brun_230, Brun_234, oi_0, oi_1, oi_10, oi_2, oi_20000, oi_m1, oi_m2, P_begin, P_cast, P_count1, P_isGoodE, P_links, P_work]; try dsimp only
            refine ⟨rfl, fun h4 => ?_, fun h4 => ?_⟩
            · apply hB
              dsimp only [rgo, rfd, Brun, Nat.beq, rwp, rst, lv_args, rlk, rs1, rs2, rdl, rky, rct, rcs, rcd, rno, rsw, Value.category, List.filter, List.take, List.drop, List.reverse, List.reverseAux, List.cons_append, List.nil_append, Option.toList, Int.toNat, Int.reduceToNat, if_pos, if_neg, reduceIte, ↓reduceIte, Nat.reduceAdd, Nat.reduceEqDiff, Nat.reduceBEq, beq_self_eq_true, Bool.not_true, Bool.not_false, Bool.and_true, Bool.and_false, Bool.true_and, Bool.false_and, gI_sI, gI_sL, gI_sA, gI_sM, gL_sI, gL_sL, gL_sA, gL_sM, aI_sI, aI_sL, aI_sA, aI_sM, aL_sI, aL_sL, aL_sA, aL_sM, P_isGood, Brun_0, Brun_4, Brun_12, Brun_17, Brun_24, Brun_26, Brun_33, Brun_36, Brun_103, Brun_113, Brun_115, Brun_125, Brun_167, Brun_177, Brun_184, Brun_195, Brun_203, Brun_212, Brun_217, Brun_226, Brun_230, Brun_234, oi_0, oi_1, oi_10, oi_2, oi_20000, oi_m1, oi_m2, P_begin, P_cast, P_count1, P_isGoodE, P_links, P_work]; try dsimp only
              refine ⟨rfl, fun h5 => ?_, fun h5 => ?_⟩
              · apply hB
                dsimp only [rgo, rfd, Brun, Nat.beq, rwp, rst, lv_args, rlk, rs1, rs2, rdl, rky, rct, rcs, rcd, rno, rsw, Value.category, List.filter, List.take, List.drop, List.reverse, List.reverseAux, List.cons_append, List.nil_append, Option.toList, Int.toNat, Int.reduceToNat, if_pos, if_neg, reduceIte, ↓reduceIte, Nat.reduceAdd, Nat.reduceEqDiff, Nat.reduceBEq, beq_self_eq_true, Bool.not_true, Bool.not_false, Bool.and_true, Bool.and_false, Bool.true_and, Bool.false_and, gI_sI, gI_sL, gI_sA, gI_sM, gL_sI, gL_sL, gL_sA, gL_sM, aI_sI, aI_sL, aI_sA, aI_sM, aL_sI, aL_sL, aL_sA, aL_sM, P_isGood, Brun_0, Brun_4, Brun_12, Brun_17, Brun_24, Brun_26, Brun_33, Brun_36, Brun_103, Brun_113, Brun_115, Brun_125, Brun_167, Brun_177, Brun_184, Brun_195, Brun_203, Brun_212, Brun_217, Brun_226, Brun_230, Brun_234, oi_0, oi_1, oi_10, oi_2, oi_20000, oi_m1, oi_m2, P_begin, P_cast, P_count1, P_isGoodE, P_links, P_work]; try dsimp only
                refine ⟨rfl, ?_⟩
                apply hB
                dsimp only [rgo, rfd, Brun, Nat.beq, rwp, rst, lv_args, rlk, rs1, rs2, rdl, rky, rct, rcs, rcd, rno, rsw, Value.category, List.filter, List.take, List.drop, List.reverse, List.reverseAux, List.cons_append, List.nil_append, Option.toList, Int.toNat, Int.reduceToNat, if_pos, if_neg, reduceIte, ↓reduceIte, Nat.reduceAdd, Nat.reduceEqDiff, Nat.reduceBEq, beq_self_eq_true, Bool.not_true, Bool.not_false, Bool.and_true, Bool.and_false, Bool.true_and, Bool.false_and, gI_sI, gI_sL, gI_sA, gI_sM, gL_sI, gL_sL, gL_sA, gL_sM, aI_sI, aI_sL, aI_sA, aI_sM, aL_sI, aL_sL, aL_sA, aL_sM, P_isGood, Brun_0, Brun_4, Brun_12, Brun_17, Brun_24, Brun_26, Brun_33, Brun_36, Brun_103, Brun_113, Brun_115, Brun_125, Brun_167, Brun_177, Brun_184, Brun_195, Brun_203, Brun_212, Brun_217, Brun_226, Brun_230, Brun_234, oi_0, oi_1, oi_10, oi_2, oi_20000, oi_m1, oi_m2, P_begin, P_cast, P_count1, P_isGoodE, P_links, P_work]; try dsimp only
                refine ⟨trivial, ?_⟩
                exact ⟨_, rfl, Or.inr ⟨hr.1.1.1, ⟨hSo.1.tr hr.1.2.2.o, hSo.2.tr (F8.fz hr.1.2.2)⟩, hr.1.2.1.2.1.1, hr.1.2.1.2.1.2⟩⟩
              · apply hB
                dsimp only [rgo, rfd, Brun, Nat.beq, rwp, rst, lv_args, rlk, rs1, rs2, rdl, rky, rct, rcs, rcd, rno, rsw, Value.category, List.filter, List.take, List.drop, List.reverse, List.reverseAux, List.cons_append, List.nil_append, Option.toList, Int.toNat, Int.reduceToNat, if_pos, if_neg, reduceIte, ↓reduceIte, Nat.reduceAdd, Nat.reduceEqDiff, Nat.reduceBEq, beq_self_eq_true, Bool.not_true, Bool.not_false, Bool.and_true, Bool.and_false, Bool.true_and, Bool.false_and, gI_sI, gI_sL, gI_sA, gI_sM, gL_sI, gL_sL, gL_sA, gL_sM, aI_sI, aI_sL, aI_sA, aI_sM, aL_sI, aL_sL, aL_sA, aL_sM, P_isGood, Brun_0, Brun_4, Brun_12, Brun_17, Brun_24, Brun_26, Brun_33, Brun_36, Brun_103, Brun_113, Brun_115, Brun_125, Brun_167, Brun_177, Brun_184, Brun_195, Brun_203, Brun_212, Brun_217, Brun_226, Brun_230, Brun_234, oi_0, oi_1, oi_10, oi_2, oi_20000, oi_m1, oi_m2, P_begin, P_cast, P_count1, P_isGoodE, P_links, P_work]; try dsimp only
                apply hB
                dsimp only [rgo, rfd, Brun, Nat.beq, rwp, rst, lv_args, rlk, rs1, rs2, rdl, rky, rct, rcs, rcd, rno, rsw, Value.category, List.filter, List.take, List.drop, List.reverse, List.reverseAux, List.cons_append, List.nil_append, Option.toList, Int.toNat, Int.reduceToNat, if_pos, if_neg, reduceIte, ↓reduceIte, Nat.reduceAdd, Nat.reduceEqDiff, Nat.reduceBEq, beq_self_eq_true, Bool.not_true, Bool.not_false, Bool.and_true, Bool.and_false, Bool.true_and, Bool.false_and, gI_sI, gI_sL, gI_sA, gI_sM, gL_sI, gL_sL, gL_sA, gL_sM, aI_sI, aI_sL, aI_sA, aI_sM, aL_sI, aL_sL, aL_sA, aL_sM, P_isGood, Brun_0, Brun_4, Brun_12, Brun_17, Brun_24, Brun_26, Brun_33, Brun_36, Brun_103, Brun_113, Brun_115, Brun_125, Brun_167, Brun_177, Brun_184, Brun_195, Brun_203, Brun_212, Brun_217, Brun_226, Brun_230, Brun_234, oi_0, oi_1, oi_10, oi_2, oi_20000, oi_m1, oi_m2, P_begin, P_cast, P_count1, P_isGoodE, P_links, P_work]; try dsimp only
                refine ⟨trivial, ?_⟩
                exact ⟨_, rfl, Or.inr ⟨hr.1.1.1, ⟨hSo.1.tr hr.1.2.2.o, hSo.2.tr (F8.fz hr.1.2.2)⟩, hr.1.2.1.2.1.1, hr.1.2.1.2.1.2⟩⟩
            · apply hB
              dsimp only [rgo, rfd, Brun, Nat.beq, rwp, rst, lv_args, rlk, rs1, rs2, rdl, rky, rct, rcs, rcd, rno, rsw, Value.category, List.filter, List.take, List.drop, List.reverse, List.reverseAux, List.cons_append, List.nil_append, Option.toList, Int.toNat, Int.reduceToNat, if_pos, if_neg, reduceIte, ↓reduceIte, Nat.reduceAdd, Nat.reduceEqDiff, Nat.reduceBEq, beq_self_eq_true, Bool.not_true, Bool.not_false, Bool.and_true, Bool.and_false, Bool.true_and, Bool.false_and, gI_sI, gI_sL, gI_sA, gI_sM, gL_sI, gL_sL, gL_sA, gL_sM, aI_sI, aI_sL, aI_sA, aI_sM, aL_sI, aL_sL, aL_sA, aL_sM, P_isGood, Brun_0, Brun_4, Brun_12, Brun_17, Brun_24, Brun_26, Brun_33, Brun_36, Brun_103, Brun_113, Brun_115, Brun_125, Brun_167, Brun_177, Brun_184, Brun_195, Brun_203, Brun_212, Brun_217, Brun_226, Brun_230, Brun_234, oi_0, oi_1, oi_10, oi_2, oi_20000, oi_m1, oi_m2, P_begin, P_cast, P_count1, P_isGoodE, P_links, P_work]; try dsimp only
              refine ⟨rfl, ?_⟩
              apply hB
              dsimp only [rgo, rfd, Brun, Nat.beq, rwp, rst, lv_args, rlk, rs1, rs2, rdl, rky, rct, rcs, rcd, rno, rsw, Value.category, List.filter, List.take, List.drop, List.reverse, List.reverseAux, List.cons_append, List.nil_append, Option.toList, Int.toNat, Int.reduceToNat, if_pos, if_neg, reduceIte, ↓reduceIte, Nat.reduceAdd, Nat.reduceEqDiff, Nat.reduceBEq, beq_self_eq_true, Bool.not_true, Bool.not_false, Bool.and_true, Bool.and_false, Bool.true_and, Bool.false_and, gI_sI, gI_sL, gI_sA, gI_sM, gL_sI, gL_sL, gL_sA, gL_sM, aI_sI, aI_sL, aI_sA, aI_sM, aL_sI, aL_sL, aL_sA, aL_sM, P_isGood, Brun_0, Brun_4, Brun_12, Brun_17, Brun_24, Brun_26, Brun_33, Brun_36, Brun_103, Brun_113, Brun_115, Brun_125, Brun_167, Brun_177, Brun_184, Brun_195, Brun_203, Brun_212, Brun_217, Brun_226, Brun_230, Brun_234, oi_0, oi_1, oi_10, oi_2, oi_20000, oi_m1, oi_m2, P_begin, P_cast, P_count1, P_isGoodE, P_links, P_work]; try dsimp only
              refine ⟨rfl, fun h6 => ?_, fun h6 => ?_⟩
              · apply hB
                dsimp only [rgo, rfd, Brun, Nat.beq, rwp, rst, lv_args, rlk, rs1, rs2, rdl, rky, rct, rcs, rcd, rno, rsw, Value.category, List.filter, List.take, List.drop, List.reverse, List.reverseAux, List.cons_append, List.nil_append, Option.toList, Int.toNat, Int.reduceToNat, if_pos, if_neg, reduceIte, ↓reduceIte, Nat.reduceAdd, Nat.reduceEqDiff, Nat.reduceBEq, beq_self_eq_true, Bool.not_true, Bool.not_false, Bool.and_true, Bool.and_false, Bool.true_and, Bool.false_and, gI_sI, gI_sL, gI_sA, gI_sM, gL_sI, gL_sL, gL_sA, gL_sM, aI_sI, aI_sL, aI_sA, aI_sM, aL_sI, aL_sL, aL_sA, aL_sM, P_isGood, Brun_0, Brun_4, Brun_12, Brun_17, Brun_24, Brun_26, Brun_33, Brun_36, Brun_103, Brun_113, Brun_115, Brun_125, Brun_167, Brun_177, Brun_184, Brun_195, Brun_203, Brun_212, Brun_217, Brun_226, Brun_230, Brun_234, oi_0, oi_1, oi_10, oi_2, oi_20000, oi_m1, oi_m2, P_begin, P_cast, P_count1, P_isGoodE, P_links, P_work]; try dsimp only
                refine ⟨rfl, ?_⟩
                apply hB
                dsimp only [rgo, rfd, Brun, Nat.beq, rwp, rst, lv_args, rlk, rs1, rs2, rdl, rky, rct, rcs, rcd, rno, rsw, Value.category, List.filter, List.take, List.drop, List.reverse, List.reverseAux, List.cons_append, List.nil_append, Option.toList, Int.toNat, Int.reduceToNat, if_pos, if_neg, reduceIte, ↓reduceIte, Nat.reduceAdd, Nat.reduceEqDiff, Nat.reduceBEq, beq_self_eq_true, Bool.not_true, Bool.not_false, Bool.and_true, Bool.and_false, Bool.true_and, Bool.false_and, gI_sI, gI_sL, gI_sA, gI_sM, gL_sI, gL_sL, gL_sA, gL_sM, aI_sI, aI_sL, aI_sA, aI_sM, aL_sI, aL_sL, aL_sA, aL_sM, P_isGood, Brun_0, Brun_4, Brun_12, Brun_17, Brun_24, Brun_26, Brun_33, Brun_36, Brun_103, Brun_113, Brun_115, Brun_125, Brun_167, Brun_177, Brun_184, Brun_195, Brun_203, Brun_212, Brun_217, Brun_226, Brun_230, Brun_234, oi_0, oi_1, oi_10, oi_2, oi_20000, oi_m1, oi_m2, P_begin, P_cast, P_count1, P_isGoodE, P_links, P_work]; try dsimp only
                refine ⟨trivial, ?_⟩
                exact ⟨_, rfl, Or.inr ⟨hr.1.1.1.fz (Fz.rf.g rfl), ⟨hSo.1.tr (hr.1.2.2.o.g rfl), hSo.2.tr (F8.fz (hr.1.2.2.g rfl))⟩, hr.1.2.1.2.1.1, hr.1.2.1.2.1.2⟩⟩
              · apply hB
                dsimp only [rgo, rfd, Brun, Nat.beq, rwp, rst, lv_args, rlk, rs1, rs2, rdl, rky, rct, rcs, rcd, rno, rsw, Value.category, List.filter, List.take, List.drop, List.reverse, List.reverseAux, List.cons_append, List.nil_append, Option.toList, Int.toNat, Int.reduceToNat, if_pos, if_neg, reduceIte, ↓reduceIte, Nat.reduceAdd, Nat.reduceEqDiff, Nat.reduceBEq, beq_self_eq_true, Bool.not_true, Bool.not_false, Bool.and_true, Bool.and_false, Bool.true_and, Bool.false_and, gI_sI, gI_sL, gI_sA, gI_sM, gL_sI, gL_sL, gL_sA, gL_sM, aI_sI, aI_sL, aI_sA, aI_sM, aL_sI, aL_sL, aL_sA, aL_sM, P_isGood, Brun_0, Brun_4, Brun_12, Brun_17, Brun_24, Brun_26, Brun_33, Brun_36, Brun_103, Brun_113, Brun_115, Brun_125, Brun_167, Brun_177, Brun_184, Brun_195, Brun_203, Brun_212, Brun_217, Brun_226, Brun_230, Brun_234, oi_0, oi_1, oi_10, oi_2, oi_20000, oi_m1, oi_m2, P_begin, P_cast, P_count1, P_isGoodE, P_links, P_work]; try dsimp only
                apply hB
                dsimp only [rgo, rfd, Brun, Nat.beq, rwp, rst, lv_args, rlk, rs1, rs2, rdl, rky, rct, rcs, rcd, rno, rsw, Value.category, List.filter, List.take, List.drop, List.reverse, List.reverseAux, List.cons_append, List.nil_append, Option.toList, Int.toNat, Int.reduceToNat, if_pos, if_neg, reduceIte, ↓reduceIte, Nat.reduceAdd, Nat.reduceEqDiff, Nat.reduceBEq, beq_self_eq_true, Bool.not_true, Bool.not_false, Bool.and_true, Bool.and_false, Bool.true_and, Bool.false_and, gI_sI, gI_sL, gI_sA, gI_sM, gL_sI, gL_sL, gL_sA, gL_sM, aI_sI, aI_sL, aI_sA, aI_sM, aL_sI, aL_sL, aL_sA, aL_sM, P_isGood, Brun_0, Brun_4, Brun_12, Brun_17, Brun_24, Brun_26, Brun_33, Brun_36, Brun_103, Brun_113, Brun_115, Brun_125, Brun_167, Brun_177, Brun_184, Brun_195, Brun_203, Brun_212, Brun_217, Brun_226, Brun_230, Brun_234, oi_0, oi_1, oi_10, oi_2, oi_20000, oi_m1, oi_m2, P_begin, P_cast, P_count1, P_isGoodE, P_links, P_work]; try dsimp only
                refine ⟨trivial, ?_⟩
                exact ⟨_, rfl, Or.inr ⟨hr.1.1.1.fz (Fz.rf.g rfl), ⟨hSo.1.tr (hr.1.2.2.o.g rfl), hSo.2.tr (F8.fz (hr.1.2.2.g rfl))⟩, hr.1.2.1.2.1.1, hr.1.2.1.2.1.2⟩⟩
        · exfalso; lia
      have t177 : ∀ S : RS, (Fo σ S ∧ HX σ S) → ∀ (n : Nat) (X : RS), MU0 X = n → RLw S X → G 177 [(0, .ref 1000), (1, .int m), (2, .int limit)] [] X := by
        intro S hSo n
        induction n using Nat.strongRecOn with
        | ind n loop =>
          intro X hk hr
          by_cases h0 : gI X 142 = 0
          · skip
            apply hB
            dsimp only [rgo, rfd, Brun, Nat.beq, rwp, rst, lv_args, rlk, rs1, rs2, rdl, rky, rct, rcs, rcd, rno, rsw, Value.category, List.filter, List.take, List.drop, List.reverse, List.reverseAux, List.cons_append, List.nil_append, Option.toList, Int.toNat, Int.reduceToNat, if_pos, if_neg, reduceIte, ↓reduceIte, Nat.reduceAdd, Nat.reduceEqDiff, Nat.reduceBEq, beq_self_eq_true, Bool.not_true, Bool.not_false, Bool.and_true, Bool.and_false, Bool.true_and, Bool.false_and, gI_sI, gI_sL, gI_sA, gI_sM, gL_sI, gL_sL, gL_sA, gL_sM, aI_sI, aI_sL, aI_sA, aI_sM, aL_sI, aL_sL, aL_sA, aL_sM, P_isGood, Brun_0, Brun_4, Brun_12, Brun_17, Brun_24, Brun_26, Brun_33, Brun_36, Brun_103, Brun_113, Brun_115, Brun_125, Brun_167, Brun_177, Brun_184, Brun_195, Brun_203, Brun_212, Brun_217, Brun_226, Brun_230, Brun_234, oi_0, oi_1, oi_10, oi_2, oi_20000, oi_m1, oi_m2, P_begin, P_cast, P_count1, P_isGoodE, P_links, P_work]; try dsimp only
            refine ⟨rfl, fun h1 => ?_, fun h1 => ?_⟩
            · exfalso; lia
            · apply hB
              dsimp only [rgo, rfd, Brun, Nat.beq, rwp, rst, lv_args, rlk, rs1, rs2, rdl, rky, rct, rcs, rcd, rno, rsw, Value.category, List.filter, List.take, List.drop, List.reverse, List.reverseAux, List.cons_append, List.nil_append, Option.toList, Int.toNat, Int.reduceToNat, if_pos, if_neg, reduceIte, ↓reduceIte, Nat.reduceAdd, Nat.reduceEqDiff, Nat.reduceBEq, beq_self_eq_true, Bool.not_true, Bool.not_false, Bool.and_true, Bool.and_false, Bool.true_and, Bool.false_and, gI_sI, gI_sL, gI_sA, gI_sM, gL_sI, gL_sL, gL_sA, gL_sM, aI_sI, aI_sL, aI_sA, aI_sM, aL_sI, aL_sL, aL_sA, aL_sM, P_isGood, Brun_0, Brun_4, Brun_12, Brun_17, Brun_24, Brun_26, Brun_33, Brun_36, Brun_103, Brun_113, Brun_115, Brun_125, Brun_167, Brun_177, Brun_184, Brun_195, Brun_203, Brun_212, Brun_217, Brun_226, Brun_230, Brun_234, oi_0, oi_1, oi_10, oi_2, oi_20000, oi_m1, oi_m2, P_begin, P_cast, P_count1, P_isGoodE, P_links, P_work]; try dsimp only
              refine ⟨rfl, rfl, (by decide), (⟨hr.1.1, hr.1.2.1, h0, hr.2.elim (fun q => absurd h0 q) (fun q => q.2), rfl⟩), fun w2 τ2 hq2 => ?_⟩
              obtain ⟨rfl, hqw⟩ := hq2
              dsimp only [Option.toList, List.cons_append, List.nil_append, Nat.beq, gI_sI, gI_sL, gI_sA, gI_sM, gL_sI, gL_sL, gL_sA, gL_sM, aI_sI, aI_sL, aI_sA, aI_sM, aL_sI, aL_sL, aL_sA, aL_sM, P_isGood]
              have hon := hr.on h0 hqw
              by_cases e0 : gI τ2 142 = 0
              · exact hW 177 [(0, .ref 1000), (1, .int m), (2, .int limit)] _ _ _ (by simp [rdl, rky]) (loop _ (by rw [← hk]; exact hon.2 e0) τ2 rfl hon.1)
              · exact hW 177 [(0, .ref 1000), (1, .int m), (2, .int limit)] _ _ _ (by simp [rdl, rky]) (t195 S hSo τ2 e0 hon.1)
          · exact t195 S hSo X h0 hr
      have t113 : ∀ A B S : RS, JD A → (Fg σ A ∧ ∃ b : Int32, EvM 125 [] σ (some (.int b)) A) → gI A 66 = 0 → LQ A B → (0 ≤ m ∧ m < gI σ 36) → (1 ≤ limit ∧ limit ≤ 20000) → S = (sI (sA (sA (sI (sI (sI (sI (sI (sI (sI (sI (sI (sL (sI (sI B 121 1) 142 0) 143 0) 144 0) 145 limit) 146 0) 147 (-2)) 148 0) 128 0) 129 0) 133 0) 144 (0 + 1)) 132 (upd (aI B 132) (0 : Int32).toNatClampNeg m)) 131 (upd (aI B 131) (0 : Int32).toNatClampNeg (-2))) 129 (0 + 1)) → G 113 [(0, .ref 1000), (1, .int m), (2, .int limit)] [] S := by
        intro A B S hJ ⟨hfg, bI, hevI⟩ h66 hlq hm hli hSe
        have hGB := hlq.rg hJ h66
        have hm0 := hm.1
        have hm1 := hm.2
        have b36 : gI B 36 = gI σ 36 := (hlq.1 36).trans (hfg.1 36 rfl)
        have b123 : gI B 123 = gI σ 123 := (hlq.1 123).trans (hfg.1 123 rfl)
        have hRf : Rf B S := by
          rw [hSe]
          (repeat (first | exact Rf.rf | refine Rf.a ?_ rfl | refine Rf.i ?_ rfl | refine Rf.g ?_ rfl | refine Rf.m ?_ rfl))
        have r125 : aI S 125 = aI B 125 := by rw [hSe]; rfl
        have hGS := hGB.rf hRf r125
        have hSo : Fo σ S ∧ HX σ S := ⟨(hfg.o.tr hlq.rf.o).tr hRf.o, A, bI, hevI, (F8.lq hlq).tr (F8.rr hRf)⟩
        have k36 : gI S 36 = gI σ 36 := (hRf.1 36 rfl).trans b36
        have k123 : gI S 123 = gI σ 123 := (hRf.1 123 rfl).trans b123
        have k144 : gI S 144 = 1 := by rw [hSe]; rfl
        have k145 : gI S 145 = limit := by rw [hSe]; rfl
        have k146 : gI S 146 = 0 := by rw [hSe]; rfl
        have k148 : gI S 148 = 0 := by rw [hSe]; rfl
        have k142 : gI S 142 = 0 := by rw [hSe]; rfl
        have k129 : gI S 129 = 1 := by rw [hSe]; rfl
        have k128 : gI S 128 = 0 := by rw [hSe]; rfl
        have k133 : gI S 133 = 0 := by rw [hSe]; rfl
        have k132 : aI S 132 0 = m := by rw [hSe]; rfl
        clear hSe
        have hCNS : CN S := by
          unfold CN
          rw [k144, k145, k146, k148, k123]
          exact ⟨⟨by decide, hli.1, hli.2⟩, ⟨by decide, by decide⟩, ⟨by decide, by decide⟩, hin⟩
        have hMT : (0 ≤ aI B 39 m.toNatClampNeg ∧ aI B 39 m.toNatClampNeg ≤ 6) ∧ (0 ≤ aI B 40 m.toNatClampNeg ∧ aI B 40 m.toNatClampNeg + aI B 39 m.toNatClampNeg ≤ 60 ∧ aI B 40 m.toNatClampNeg ≤ 60) := by
          have hmn : nT m < nT (gI B 36) := nT_lt hm0 (by rw [b36]; exact hm1)
          have hv42 := hGB.k.j.v
          obtain ⟨f, kk, j, hp⟩ := hGB.k
          have q := hp.2.2.2.2.2.2.2.2.1.2 (nT m) hmn
          have q2 : 0 ≤ aI B 39 (nT m) ∧ aI B 39 (nT m) ≤ 6 := q.2.1
          have q3 : 0 ≤ aI B 40 (nT m) ∧ aI B 40 (nT m) + aI B 39 (nT m) ≤ gI B 42 ∧ aI B 40 (nT m) ≤ gI B 42 := q.2.2.1
          exact ⟨q2, q3.1, Int32.le_trans q3.2.1 hv42.2, Int32.le_trans q3.2.2 hv42.2⟩
        have hm10 : m < 10 := by
          have := hGB.k.j.m
          rw [b36] at this
          lia
        have r39 : aI S 39 = aI B 39 := hRf.2.2.1 39 rfl
        have r40 : aI S 40 = aI B 40 := hRf.2.2.1 40 rfl
        have loop : ∀ n : Nat, ∀ (i : Int32) (f : Nat → Int64), (4000 - i.toInt).toNat = n → (0 ≤ i ∧ i ≤ 6) → G 115 [(0, .ref 1000), (1, .int m), (2, .int limit), (3, .int i)] [] (sM S 130 f) := by
          intro n
          induction n using Nat.strongRecOn with
          | ind n loop =>
            intro i f hk hi
            have hq39 : 0 ≤ aI S 39 m.toNatClampNeg ∧ aI S 39 m.toNatClampNeg ≤ 6 := by rw [r39]; exact hMT.1
            apply hB
            dsimp only [rgo, rfd, Brun, Nat.beq, rwp, rst, lv_args, rlk, rs1, rs2, rdl, rky, rct, rcs, rcd, rno, rsw, Value.category, List.filter, List.take, List.drop, List.reverse, List.reverseAux, List.cons_append, List.nil_append, Option.toList, Int.toNat, Int.reduceToNat, if_pos, if_neg, reduceIte, ↓reduceIte, Nat.reduceAdd, Nat.reduceEqDiff, Nat.reduceBEq, beq_self_eq_true, Bool.not_true, Bool.not_false, Bool.and_true, Bool.and_false, Bool.true_and, Bool.false_and, gI_sI, gI_sL, gI_sA, gI_sM, gL_sI, gL_sL, gL_sA, gL_sM, aI_sI, aI_sL, aI_sA, aI_sM, aL_sI, aL_sL, aL_sA, aL_sM, P_isGood, Brun_0, Brun_4, Brun_12, Brun_17, Brun_24, Brun_26, Brun_33, Brun_36, Brun_103, Brun_113, Brun_115, Brun_125, Brun_167, Brun_177, Brun_184, Brun_195, Brun_203, Brun_212, Brun_217, Brun_226, Brun_230, Brun_234, oi_0, oi_1, oi_10, oi_2, oi_20000, oi_m1, oi_m2, P_begin, P_cast, P_count1, P_isGoodE, P_links, P_work]; try dsimp only
            refine ⟨rfl, rfl, (in_39 (by lia) (by lia)), fun h1 => ?_, fun h1 => ?_⟩
            · apply hB
              dsimp only [rgo, rfd, Brun, Nat.beq, rwp, rst, lv_args, rlk, rs1, rs2, rdl, rky, rct, rcs, rcd, rno, rsw, Value.category, List.filter, List.take, List.drop, List.reverse, List.reverseAux, List.cons_append, List.nil_append, Option.toList, Int.toNat, Int.reduceToNat, if_pos, if_neg, reduceIte, ↓reduceIte, Nat.reduceAdd, Nat.reduceEqDiff, Nat.reduceBEq, beq_self_eq_true, Bool.not_true, Bool.not_false, Bool.and_true, Bool.and_false, Bool.true_and, Bool.false_and, gI_sI, gI_sL, gI_sA, gI_sM, gL_sI, gL_sL, gL_sA, gL_sM, aI_sI, aI_sL, aI_sA, aI_sM, aL_sI, aL_sL, aL_sA, aL_sM, P_isGood, Brun_0, Brun_4, Brun_12, Brun_17, Brun_24, Brun_26, Brun_33, Brun_36, Brun_103, Brun_113, Brun_115, Brun_125, Brun_167, Brun_177, Brun_184, Brun_195, Brun_203, Brun_212, Brun_217, Brun_226, Brun_230, Brun_234, oi_0, oi_1, oi_10, oi_2, oi_20000, oi_m1, oi_m2, P_begin, P_cast, P_count1, P_isGoodE, P_links, P_work]; try dsimp only
              refine ⟨rfl, rfl, (in_41 (by lia) (by lia)), rfl, ?_⟩
              refine hW 177 [(0, .ref 1000), (1, .int m), (2, .int limit)] _ _ _ (by simp [rdl, rky]) (t177 S hSo _ _ rfl ⟨⟨?_, ?_, ?_⟩, Or.inr ⟨k142, ?_⟩⟩)
              · exact hGS.fz ((Fz.rf.m rfl).i rfl)
              · exact hCNS.ry ((Ry.rf.m rfl).i rfl)
              · exact (Fz.rf.m rfl).i rfl
              · exact RA.beg (m := m) (hGS.fz ((Fz.rf.m rfl).i rfl)) ⟨hm0, by show m < gI S 36; rw [k36]; exact hm1⟩ k129 k128 k133 k132 (by show aI S 41 _ = _; rfl)
            · have hq40 : 0 ≤ aI S 40 m.toNatClampNeg + i ∧ aI S 40 m.toNatClampNeg + i < 60 := by rw [r40]; rw [r39] at *; exact ⟨by lia, by lia⟩
              apply hB
              dsimp only [rgo, rfd, Brun, Nat.beq, rwp, rst, lv_args, rlk, rs1, rs2, rdl, rky, rct, rcs, rcd, rno, rsw, Value.category, List.filter, List.take, List.drop, List.reverse, List.reverseAux, List.cons_append, List.nil_append, Option.toList, Int.toNat, Int.reduceToNat, if_pos, if_neg, reduceIte, ↓reduceIte, Nat.reduceAdd, Nat.reduceEqDiff, Nat.reduceBEq, beq_self_eq_true, Bool.not_true, Bool.not_false, Bool.and_true, Bool.and_false, Bool.true_and, Bool.false_and, gI_sI, gI_sL, gI_sA, gI_sM, gL_sI, gL_sL, gL_sA, gL_sM, aI_sI, aI_sL, aI_sA, aI_sM, aL_sI, aL_sL, aL_sA, aL_sM, P_isGood, Brun_0, Brun_4, Brun_12, Brun_17, Brun_24, Brun_26, Brun_33, Brun_36, Brun_103, Brun_113, Brun_115, Brun_125, Brun_167, Brun_177, Brun_184, Brun_195, Brun_203, Brun_212, Brun_217, Brun_226, Brun_230, Brun_234, oi_0, oi_1, oi_10, oi_2, oi_20000, oi_m1, oi_m2, P_begin, P_cast, P_count1, P_isGoodE, P_links, P_work]; try dsimp only
              refine ⟨rfl, rfl, rfl, (in_40 (by lia) (by lia)), rfl, rfl, rfl, (in_40 (by lia) (by lia)), rfl, (in_44 hq40.1 (by lia)), rfl, rfl, (in_124 (by lia) (by lia)), rfl, (by decide), (trivial), fun w2 τ2 hq2 => ?_⟩
              obtain ⟨r2, rfl, e2⟩ := hq2
              obtain rfl := e2.symm
              dsimp only [Option.toList, List.cons_append, List.nil_append, Nat.beq, gI_sI, gI_sL, gI_sA, gI_sM, gL_sI, gL_sL, gL_sA, gL_sM, aI_sI, aI_sL, aI_sA, aI_sM, aL_sI, aL_sL, aL_sA, aL_sM, P_isGood]
              refine ⟨rfl, (in_130 hq40.1 (by lia)), ?_⟩
              refine hW 115 [(0, .ref 1000), (1, .int m), (2, .int limit), (3, .int (i + 1))] _ _ _ (by simp [rdl, rky]) (?_)
              rw [sM_sM]
              refine loop _ ?_ (i + 1) _ rfl ⟨by lia, by lia⟩
              exact mlt4 hk (by lia) (by lia)
        apply hB
        dsimp only [rgo, rfd, Brun, Nat.beq, rwp, rst, lv_args, rlk, rs1, rs2, rdl, rky, rct, rcs, rcd, rno, rsw, Value.category, List.filter, List.take, List.drop, List.reverse, List.reverseAux, List.cons_append, List.nil_append, Option.toList, Int.toNat, Int.reduceToNat, if_pos, if_neg, reduceIte, ↓reduceIte, Nat.reduceAdd, Nat.reduceEqDiff, Nat.reduceBEq, beq_self_eq_true, Bool.not_true, Bool.not_false, Bool.and_true, Bool.and_false, Bool.true_and, Bool.false_and, gI_sI, gI_sL, gI_sA, gI_sM, gL_sI, gL_sL, gL_sA, gL_sM, aI_sI, aI_sL, aI_sA, aI_sM, aL_sI, aL_sL, aL_sA, aL_sM, P_isGood, Brun_0, Brun_4, Brun_12, Brun_17, Brun_24, Brun_26, Brun_33, Brun_36, Brun_103, Brun_113, Brun_115, Brun_125, Brun_167, Brun_177, Brun_184, Brun_195, Brun_203, Brun_212, Brun_217, Brun_226, Brun_230, Brun_234, oi_0, oi_1, oi_10, oi_2, oi_20000, oi_m1, oi_m2, P_begin, P_cast, P_count1, P_isGoodE, P_links, P_work]; try dsimp only
        refine hW 115 [(0, .ref 1000), (1, .int m), (2, .int limit), (3, .int 0)] _ _ _ (by simp [rdl, rky]) ?_
        have e : S = sM S 130 (aL S 130) := sM_id.symm
        rw [e]
        exact loop _ 0 _ rfl ⟨by decide, by decide⟩
      apply hB
      dsimp only [rgo, rfd, Brun, Nat.beq, rwp, rst, lv_args, rlk, rs1, rs2, rdl, rky, rct, rcs, rcd, rno, rsw, Value.category, List.filter, List.take, List.drop, List.reverse, List.reverseAux, List.cons_append, List.nil_append, Option.toList, Int.toNat, Int.reduceToNat, if_pos, if_neg, reduceIte, ↓reduceIte, Nat.reduceAdd, Nat.reduceEqDiff, Nat.reduceBEq, beq_self_eq_true, Bool.not_true, Bool.not_false, Bool.and_true, Bool.and_false, Bool.true_and, Bool.false_and, gI_sI, gI_sL, gI_sA, gI_sM, gL_sI, gL_sL, gL_sA, gL_sM, aI_sI, aI_sL, aI_sA, aI_sM, aL_sI, aL_sL, aL_sA, aL_sM, P_isGood, Brun_0, Brun_4, Brun_12, Brun_17, Brun_24, Brun_26, Brun_33, Brun_36, Brun_103, Brun_113, Brun_115, Brun_125, Brun_167, Brun_177, Brun_184, Brun_195, Brun_203, Brun_212, Brun_217, Brun_226, Brun_230, Brun_234, oi_0, oi_1, oi_10, oi_2, oi_20000, oi_m1, oi_m2, P_begin, P_cast, P_count1, P_isGoodE, P_links, P_work]; try dsimp only
      refine ⟨fun h1 => ?_, fun h1 => ?_⟩
      · apply hB
        dsimp only [rgo, rfd, Brun, Nat.beq, rwp, rst, lv_args, rlk, rs1, rs2, rdl, rky, rct, rcs, rcd, rno, rsw, Value.category, List.filter, List.take, List.drop, List.reverse, List.reverseAux, List.cons_append, List.nil_append, Option.toList, Int.toNat, Int.reduceToNat, if_pos, if_neg, reduceIte, ↓reduceIte, Nat.reduceAdd, Nat.reduceEqDiff, Nat.reduceBEq, beq_self_eq_true, Bool.not_true, Bool.not_false, Bool.and_true, Bool.and_false, Bool.true_and, Bool.false_and, gI_sI, gI_sL, gI_sA, gI_sM, gL_sI, gL_sL, gL_sA, gL_sM, aI_sI, aI_sL, aI_sA, aI_sM, aL_sI, aL_sL, aL_sA, aL_sM, P_isGood, Brun_0, Brun_4, Brun_12, Brun_17, Brun_24, Brun_26, Brun_33, Brun_36, Brun_103, Brun_113, Brun_115, Brun_125, Brun_167, Brun_177, Brun_184, Brun_195, Brun_203, Brun_212, Brun_217, Brun_226, Brun_230, Brun_234, oi_0, oi_1, oi_10, oi_2, oi_20000, oi_m1, oi_m2, P_begin, P_cast, P_count1, P_isGoodE, P_links, P_work]; try dsimp only
        refine ⟨trivial, ?_⟩
        exact ⟨_, rfl, Or.inl rfl⟩
      · apply hB
        dsimp only [rgo, rfd, Brun, Nat.beq, rwp, rst, lv_args, rlk, rs1, rs2, rdl, rky, rct, rcs, rcd, rno, rsw, Value.category, List.filter, List.take, List.drop, List.reverse, List.reverseAux, List.cons_append, List.nil_append, Option.toList, Int.toNat, Int.reduceToNat, if_pos, if_neg, reduceIte, ↓reduceIte, Nat.reduceAdd, Nat.reduceEqDiff, Nat.reduceBEq, beq_self_eq_true, Bool.not_true, Bool.not_false, Bool.and_true, Bool.and_false, Bool.true_and, Bool.false_and, gI_sI, gI_sL, gI_sA, gI_sM, gL_sI, gL_sL, gL_sA, gL_sM, aI_sI, aI_sL, aI_sA, aI_sM, aL_sI, aL_sL, aL_sA, aL_sM, P_isGood, Brun_0, Brun_4, Brun_12, Brun_17, Brun_24, Brun_26, Brun_33, Brun_36, Brun_103, Brun_113, Brun_115, Brun_125, Brun_167, Brun_177, Brun_184, Brun_195, Brun_203, Brun_212, Brun_217, Brun_226, Brun_230, Brun_234, oi_0, oi_1, oi_10, oi_2, oi_20000, oi_m1, oi_m2, P_begin, P_cast, P_count1, P_isGoodE, P_links, P_work]; try dsimp only
        refine ⟨rfl, fun h2 => ?_, fun h2 => ?_⟩
        · apply hB
          dsimp only [rgo, rfd, Brun, Nat.beq, rwp, rst, lv_args, rlk, rs1, rs2, rdl, rky, rct, rcs, rcd, rno, rsw, Value.category, List.filter, List.take, List.drop, List.reverse, List.reverseAux, List.cons_append, List.nil_append, Option.toList, Int.toNat, Int.reduceToNat, if_pos, if_neg, reduceIte, ↓reduceIte, Nat.reduceAdd, Nat.reduceEqDiff, Nat.reduceBEq, beq_self_eq_true, Bool.not_true, Bool.not_false, Bool.and_true, Bool.and_false, Bool.true_and, Bool.false_and, gI_sI, gI_sL, gI_sA, gI_sM, gL_sI, gL_sL, gL_sA, gL_sM, aI_sI, aI_sL, aI_sA, aI_sM, aL_sI, aL_sL, aL_sA, aL_sM, P_isGood, Brun_0, Brun_4, Brun_12, Brun_17, Brun_24, Brun_26, Brun_33, Brun_36, Brun_103, Brun_113, Brun_115, Brun_125, Brun_167, Brun_177, Brun_184, Brun_195, Brun_203, Brun_212, Brun_217, Brun_226, Brun_230, Brun_234, oi_0, oi_1, oi_10, oi_2, oi_20000, oi_m1, oi_m2, P_begin, P_cast, P_count1, P_isGoodE, P_links, P_work]; try dsimp only
          refine ⟨trivial, ?_⟩
          exact ⟨_, rfl, Or.inl rfl⟩
        · apply hB
          dsimp only [rgo, rfd, Brun, Nat.beq, rwp, rst, lv_args, rlk, rs1, rs2, rdl, rky, rct, rcs, rcd, rno, rsw, Value.category, List.filter, List.take, List.drop, List.reverse, List.reverseAux, List.cons_append, List.nil_append, Option.toList, Int.toNat, Int.reduceToNat, if_pos, if_neg, reduceIte, ↓reduceIte, Nat.reduceAdd, Nat.reduceEqDiff, Nat.reduceBEq, beq_self_eq_true, Bool.not_true, Bool.not_false, Bool.and_true, Bool.and_false, Bool.true_and, Bool.false_and, gI_sI, gI_sL, gI_sA, gI_sM, gL_sI, gL_sL, gL_sA, gL_sM, aI_sI, aI_sL, aI_sA, aI_sM, aL_sI, aL_sL, aL_sA, aL_sM, P_isGood, Brun_0, Brun_4, Brun_12, Brun_17, Brun_24, Brun_26, Brun_33, Brun_36, Brun_103, Brun_113, Brun_115, Brun_125, Brun_167, Brun_177, Brun_184, Brun_195, Brun_203, Brun_212, Brun_217, Brun_226, Brun_230, Brun_234, oi_0, oi_1, oi_10, oi_2, oi_20000, oi_m1, oi_m2, P_begin, P_cast, P_count1, P_isGoodE, P_links, P_work]; try dsimp only
          refine ⟨fun h3 => ?_, fun h3 => ?_⟩
          · apply hB
            dsimp only [rgo, rfd, Brun, Nat.beq, rwp, rst, lv_args, rlk, rs1, rs2, rdl, rky, rct, rcs, rcd, rno, rsw, Value.category, List.filter, List.take, List.drop, List.reverse, List.reverseAux, List.cons_append, List.nil_append, Option.toList, Int.toNat, Int.reduceToNat, if_pos, if_neg, reduceIte, ↓reduceIte, Nat.reduceAdd, Nat.reduceEqDiff, Nat.reduceBEq, beq_self_eq_true, Bool.not_true, Bool.not_false, Bool.and_true, Bool.and_false, Bool.true_and, Bool.false_and, gI_sI, gI_sL, gI_sA, gI_sM, gL_sI, gL_sL, gL_sA, gL_sM, aI_sI, aI_sL, aI_sA, aI_sM, aL_sI, aL_sL, aL_sA, aL_sM, P_isGood, Brun_0, Brun_4, Brun_12, Brun_17, Brun_24, Brun_26, Brun_33, Brun_36, Brun_103, Brun_113, Brun_115, Brun_125, Brun_167, Brun_177, Brun_184, Brun_195, Brun_203, Brun_212, Brun_217, Brun_226, Brun_230, Brun_234, oi_0, oi_1, oi_10, oi_2, oi_20000, oi_m1, oi_m2, P_begin, P_cast, P_count1, P_isGoodE, P_links, P_work]; try dsimp only
            refine ⟨trivial, ?_⟩
            exact ⟨_, rfl, Or.inl rfl⟩
          · apply hB
            dsimp only [rgo, rfd, Brun, Nat.beq, rwp, rst, lv_args, rlk, rs1, rs2, rdl, rky, rct, rcs, rcd, rno, rsw, Value.category, List.filter, List.take, List.drop, List.reverse, List.reverseAux, List.cons_append, List.nil_append, Option.toList, Int.toNat, Int.reduceToNat, if_pos, if_neg, reduceIte, ↓reduceIte, Nat.reduceAdd, Nat.reduceEqDiff, Nat.reduceBEq, beq_self_eq_true, Bool.not_true, Bool.not_false, Bool.and_true, Bool.and_false, Bool.true_and, Bool.false_and, gI_sI, gI_sL, gI_sA, gI_sM, gL_sI, gL_sL, gL_sA, gL_sM, aI_sI, aI_sL, aI_sA, aI_sM, aL_sI, aL_sL, aL_sA, aL_sM, P_isGood, Brun_0, Brun_4, Brun_12, Brun_17, Brun_24, Brun_26, Brun_33, Brun_36, Brun_103, Brun_113, Brun_115, Brun_125, Brun_167, Brun_177, Brun_184, Brun_195, Brun_203, Brun_212, Brun_217, Brun_226, Brun_230, Brun_234, oi_0, oi_1, oi_10, oi_2, oi_20000, oi_m1, oi_m2, P_begin, P_cast, P_count1, P_isGoodE, P_links, P_work]; try dsimp only
            refine ⟨fun h4 => ?_, fun h4 => ?_⟩
            · apply hB
              dsimp only [rgo, rfd, Brun, Nat.beq, rwp, rst, lv_args, rlk, rs1, rs2, rdl, rky, rct, rcs, rcd, rno, rsw, Value.category, List.filter, List.take, List.drop, List.reverse, List.reverseAux, List.cons_append, List.nil_append, Option.toList, Int.toNat, Int.reduceToNat, if_pos, if_neg, reduceIte, ↓reduceIte, Nat.reduceAdd, Nat.reduceEqDiff, Nat.reduceBEq, beq_self_eq_true, Bool.not_true, Bool.not_false, Bool.and_true, Bool.and_false, Bool.true_and, Bool.false_and, gI_sI, gI_sL, gI_sA, gI_sM, gL_sI, gL_sL, gL_sA, gL_sM, aI_sI, aI_sL, aI_sA, aI_sM, aL_sI, aL_sL, aL_sA, aL_sM, P_isGood, Brun_0, Brun_4, Brun_12, Brun_17, Brun_24, Brun_26, Brun_33, Brun_36, Brun_103, Brun_113, Brun_115, Brun_125, Brun_167, Brun_177, Brun_184, Brun_195, Brun_203, Brun_212, Brun_217, Brun_226, Brun_230, Brun_234, oi_0, oi_1, oi_10, oi_2, oi_20000, oi_m1, oi_m2, P_begin, P_cast, P_count1, P_isGoodE, P_links, P_work]; try dsimp only
              refine ⟨rfl, (by decide), (hIG), fun w5 τ5 hq5 => ?_⟩
              obtain ⟨hq5, hevI5⟩ := hq5
              obtain ⟨r5, rfl, hr5, hjd5, hfg5⟩ := hq5
              rcases hr5 with rfl | ⟨rfl, he5⟩
              · dsimp only [Option.toList, List.cons_append, List.nil_append, Nat.beq, gI_sI, gI_sL, gI_sA, gI_sM, gL_sI, gL_sL, gL_sA, gL_sM, aI_sI, aI_sL, aI_sA, aI_sM, aL_sI, aL_sL, aL_sA, aL_sM, P_isGood]
                refine ⟨fun h6 => absurd h6 (by decide), fun h6 => ?_⟩
                clear h6
                apply hB
                dsimp only [rgo, rfd, Brun, Nat.beq, rwp, rst, lv_args, rlk, rs1, rs2, rdl, rky, rct, rcs, rcd, rno, rsw, Value.category, List.filter, List.take, List.drop, List.reverse, List.reverseAux, List.cons_append, List.nil_append, Option.toList, Int.toNat, Int.reduceToNat, if_pos, if_neg, reduceIte, ↓reduceIte, Nat.reduceAdd, Nat.reduceEqDiff, Nat.reduceBEq, beq_self_eq_true, Bool.not_true, Bool.not_false, Bool.and_true, Bool.and_false, Bool.true_and, Bool.false_and, gI_sI, gI_sL, gI_sA, gI_sM, gL_sI, gL_sL, gL_sA, gL_sM, aI_sI, aI_sL, aI_sA, aI_sM, aL_sI, aL_sL, aL_sA, aL_sM, P_isGood, Brun_0, Brun_4, Brun_12, Brun_17, Brun_24, Brun_26, Brun_33, Brun_36, Brun_103, Brun_113, Brun_115, Brun_125, Brun_167, Brun_177, Brun_184, Brun_195, Brun_203, Brun_212, Brun_217, Brun_226, Brun_230, Brun_234, oi_0, oi_1, oi_10, oi_2, oi_20000, oi_m1, oi_m2, P_begin, P_cast, P_count1, P_isGoodE, P_links, P_work]; try dsimp only
                refine ⟨trivial, ?_⟩
                exact ⟨_, rfl, Or.inr ⟨hjd5, ⟨hfg5.o, _, _, hevI5, F8.rf⟩, by rw [hfg5.1 148 rfl]; exact hto.1, by rw [hfg5.1 148 rfl]; exact hto.2⟩⟩
              · dsimp only [Option.toList, List.cons_append, List.nil_append, Nat.beq, gI_sI, gI_sL, gI_sA, gI_sM, gL_sI, gL_sL, gL_sA, gL_sM, aI_sI, aI_sL, aI_sA, aI_sM, aL_sI, aL_sL, aL_sA, aL_sM, P_isGood]
                refine ⟨fun h7 => ?_, fun h7 => absurd h7 (by decide)⟩
                clear h7
                apply hB
                dsimp only [rgo, rfd, Brun, Nat.beq, rwp, rst, lv_args, rlk, rs1, rs2, rdl, rky, rct, rcs, rcd, rno, rsw, Value.category, List.filter, List.take, List.drop, List.reverse, List.reverseAux, List.cons_append, List.nil_append, Option.toList, Int.toNat, Int.reduceToNat, if_pos, if_neg, reduceIte, ↓reduceIte, Nat.reduceAdd, Nat.reduceEqDiff, Nat.reduceBEq, beq_self_eq_true, Bool.not_true, Bool.not_false, Bool.and_true, Bool.and_false, Bool.true_and, Bool.false_and, gI_sI, gI_sL, gI_sA, gI_sM, gL_sI, gL_sL, gL_sA, gL_sM, aI_sI, aI_sL, aI_sA, aI_sM, aL_sI, aL_sL, aL_sA, aL_sM, P_isGood, Brun_0, Brun_4, Brun_12, Brun_17, Brun_24, Brun_26, Brun_33, Brun_36, Brun_103, Brun_113, Brun_115, Brun_125, Brun_167, Brun_177, Brun_184, Brun_195, Brun_203, Brun_212, Brun_217, Brun_226, Brun_230, Brun_234, oi_0, oi_1, oi_10, oi_2, oi_20000, oi_m1, oi_m2, P_begin, P_cast, P_count1, P_isGoodE, P_links, P_work]; try dsimp only
                refine ⟨rfl, (by decide), (hjd5.1), fun w8 τ8 hq8 => ?_⟩
                obtain ⟨rfl, hlq8⟩ := hq8
                dsimp only [Option.toList, List.cons_append, List.nil_append, Nat.beq, gI_sI, gI_sL, gI_sA, gI_sM, gL_sI, gL_sL, gL_sA, gL_sM, aI_sI, aI_sL, aI_sA, aI_sM, aL_sI, aL_sL, aL_sA, aL_sM, P_isGood]
                refine ⟨rfl, Or.inr rfl, rfl, rfl, rfl, rfl, rfl, rfl, rfl, rfl, rfl, rfl, rfl, (by decide), (trivial), fun w9 τ9 hq9 => ?_⟩
                obtain ⟨r9, rfl, hr9⟩ := hq9
                obtain ⟨rfl, hs9, rfl⟩ := hr9.resolve_left (fun q => absurd (show (0 : Int32) = limit from q.2.1) (by lia))
                dsimp only [Option.toList, List.cons_append, List.nil_append, Nat.beq, gI_sI, gI_sL, gI_sA, gI_sM, gL_sI, gL_sL, gL_sA, gL_sM, aI_sI, aI_sL, aI_sA, aI_sM, aL_sI, aL_sL, aL_sA, aL_sM, P_isGood]
                refine ⟨fun h10 => absurd h10 (by decide), fun h10 => ?_⟩
                clear h10
                apply hB
                dsimp only [rgo, rfd, Brun, Nat.beq, rwp, rst, lv_args, rlk, rs1, rs2, rdl, rky, rct, rcs, rcd, rno, rsw, Value.category, List.filter, List.take, List.drop, List.reverse, List.reverseAux, List.cons_append, List.nil_append, Option.toList, Int.toNat, Int.reduceToNat, if_pos, if_neg, reduceIte, ↓reduceIte, Nat.reduceAdd, Nat.reduceEqDiff, Nat.reduceBEq, beq_self_eq_true, Bool.not_true, Bool.not_false, Bool.and_true, Bool.and_false, Bool.true_and, Bool.false_and, gI_sI, gI_sL, gI_sA, gI_sM, gL_sI, gL_sL, gL_sA, gL_sM, aI_sI, aI_sL, aI_sA, aI_sM, aL_sI, aL_sL, aL_sA, aL_sM, P_isGood, Brun_0, Brun_4, Brun_12, Brun_17, Brun_24, Brun_26, Brun_33, Brun_36, Brun_103, Brun_113, Brun_115, Brun_125, Brun_167, Brun_177, Brun_184, Brun_195, Brun_203, Brun_212, Brun_217, Brun_226, Brun_230, Brun_234, oi_0, oi_1, oi_10, oi_2, oi_20000, oi_m1, oi_m2, P_begin, P_cast, P_count1, P_isGoodE, P_links, P_work]; try dsimp only
                refine ⟨rfl, (by decide), (⟨show (0 : Int32) ≤ 0 by decide, show (0 : Int32) ≤ 30 by decide⟩), fun w11 τ11 hq11 => ?_⟩
                obtain ⟨r11, rfl, hr11⟩ := hq11
                obtain ⟨rfl, hs11, rfl⟩ := hr11.resolve_left (fun q => absurd (show (0 : Int32) = 30 from q.2.1) (by decide))
                dsimp only [Option.toList, List.cons_append, List.nil_append, Nat.beq, gI_sI, gI_sL, gI_sA, gI_sM, gL_sI, gL_sL, gL_sA, gL_sM, aI_sI, aI_sL, aI_sA, aI_sM, aL_sI, aL_sL, aL_sA, aL_sM, P_isGood]
                refine ⟨fun h12 => absurd h12 (by decide), fun h12 => ?_⟩
                clear h12
                exact hW 113 [(0, .ref 1000), (1, .int m), (2, .int limit)] _ _ _ (by simp [rdl, rky]) (t113 τ5 τ8 _ hjd5 ⟨hfg5, _, hevI5⟩ he5 hlq8 ⟨by lia, by lia⟩ ⟨by lia, by lia⟩ rfl)
            · apply hB
              dsimp only [rgo, rfd, Brun, Nat.beq, rwp, rst, lv_args, rlk, rs1, rs2, rdl, rky, rct, rcs, rcd, rno, rsw, Value.category, List.filter, List.take, List.drop, List.reverse, List.reverseAux, List.cons_append, List.nil_append, Option.toList, Int.toNat, Int.reduceToNat, if_pos, if_neg, reduceIte, ↓reduceIte, Nat.reduceAdd, Nat.reduceEqDiff, Nat.reduceBEq, beq_self_eq_true, Bool.not_true, Bool.not_false, Bool.and_true, Bool.and_false, Bool.true_and, Bool.false_and, gI_sI, gI_sL, gI_sA, gI_sM, gL_sI, gL_sL, gL_sA, gL_sM, aI_sI, aI_sL, aI_sA, aI_sM, aL_sI, aL_sL, aL_sA, aL_sM, P_isGood, Brun_0, Brun_4, Brun_12, Brun_17, Brun_24, Brun_26, Brun_33, Brun_36, Brun_103, Brun_113, Brun_115, Brun_125, Brun_167, Brun_177, Brun_184, Brun_195, Brun_203, Brun_212, Brun_217, Brun_226, Brun_230, Brun_234, oi_0, oi_1, oi_10, oi_2, oi_20000, oi_m1, oi_m2, P_begin, P_cast, P_count1, P_isGoodE, P_links, P_work]; try dsimp only
              refine ⟨trivial, ?_⟩
              exact ⟨_, rfl, Or.inl rfl⟩
    next => exact hP.elim
