def iFk (k : Nat) : Bool := k == 66 || k == 67 || k == 69
def aFk (k : Nat) : Bool := k == 84 || k == 86
def lFk (k : Nat) : Bool := k == 85 || k == 87
def Fk (σ τ : RS) : Prop := (∀ k, iFk k = false → gI τ k = gI σ k) ∧ (∀ k, gL τ k = gL σ k) ∧ (∀ k, aFk k = false → aI τ k = aI σ k) ∧ ∀ k, lFk k = false → aL τ k = aL σ k
theorem Fk.rf {σ : RS} : Fk σ σ := ⟨fun _ _ => rfl, fun _ => rfl, fun _ _ => rfl, fun _ _ => rfl⟩
theorem Fk.tr {σ τ υ : RS} (h1 : Fk σ τ) (h2 : Fk τ υ) : Fk σ υ := ⟨fun k hk => (h2.1 k hk).trans (h1.1 k hk), fun k => (h2.2.1 k).trans (h1.2.1 k), fun k hk => (h2.2.2.1 k hk).trans (h1.2.2.1 k hk), fun k hk => (h2.2.2.2 k hk).trans (h1.2.2.2 k hk)⟩
theorem Fk.i {σ τ : RS} (h : Fk σ τ) {k : Nat} {v : Int32} (hk : iFk k = true) : Fk σ (sI τ k v) := ⟨fun j hj => by
  rw [gI_sI, nb_ne (fun q => by subst q; rw [hk] at hj; cases hj)]
  exact h.1 j hj, h.2.1, h.2.2.1, h.2.2.2⟩
theorem Fk.a {σ τ : RS} (h : Fk σ τ) {k : Nat} {f : Nat → Int32} (hk : aFk k = true) : Fk σ (sA τ k f) := ⟨h.1, h.2.1, fun j hj => by
  rw [aI_sA, nb_ne (fun q => by subst q; rw [hk] at hj; cases hj)]
  exact h.2.2.1 j hj, h.2.2.2⟩
theorem Fk.m {σ τ : RS} (h : Fk σ τ) {k : Nat} {f : Nat → Int64} (hk : lFk k = true) : Fk σ (sM τ k f) := ⟨h.1, h.2.1, h.2.2.1, fun j hj => by
  rw [aL_sM, nb_ne (fun q => by subst q; rw [hk] at hj; cases hj)]
  exact h.2.2.2 j hj⟩
theorem Fk.j {σ τ : RS} (h : Fk σ τ) : Fj σ τ := by
  refine ⟨fun k hk => h.1 k ?_, h.2.1, fun k hk => h.2.2.1 k ?_, fun k hk => h.2.2.2 k ?_⟩
  · unfold iFj at hk
    unfold iFk
    simp only [Bool.or_eq_false_iff, beq_eq_false_iff_ne] at hk ⊢
    omega
  · unfold aFj at hk
    unfold aFk
    simp only [Bool.or_eq_false_iff, Bool.and_eq_false_imp, decide_eq_true_eq, decide_eq_false_iff_not, beq_eq_false_iff_ne] at hk ⊢
    omega
  · unfold lFj at hk
    unfold lFk
    simp only [Bool.or_eq_false_iff, beq_eq_false_iff_ne] at hk ⊢
    omega
/-- a code of a statement: n values off the judge's pile -/
def JT (σ τ : RS) (n : Int32) (F : Prop) : Prop := Fk σ τ ∧ gI τ 69 = gI σ 69 - n ∧ (gI τ 66 = 0 → gI σ 66 = 0 ∧ F)
def PL (σ τ : RS) : Prop := aI τ 59 = aI σ 59 ∧ aI τ 80 = aI σ 80 ∧ aI τ 88 = aI σ 88 ∧ aI τ 90 = aI σ 90 ∧ gI τ 89 = gI σ 89 ∧ gI τ 91 = gI σ 91
def JS (σ τ : RS) (c n : Int32) (F : Prop) : Prop := Fj σ τ ∧ (gI τ 69 = gI σ 69 - n ∧ gI τ 74 = gI σ 74) ∧ (aI τ 70 = aI σ 70 ∧ aI τ 71 = aI σ 71 ∧ aI τ 73 = aI σ 73 ∧ aI τ 81 = aI σ 81 ∧ aI τ 83 = aI σ 83) ∧ (∀ i, i ≠ c.toNatClampNeg → aI τ 82 i = aI σ 82 i) ∧ (gI τ 66 = 0 → gI σ 66 = 0 ∧ F)
theorem JT.s {σ τ : RS} {c n : Int32} {F : Prop} (h : JT σ τ n F) : JS σ τ c n F ∧ PL σ τ := by
  obtain ⟨h1, h2, h3⟩ := h
  have e82 := h1.2.2.1 82 rfl
  exact ⟨⟨h1.j, ⟨h2, h1.1 74 rfl⟩, ⟨h1.2.2.1 70 rfl, h1.2.2.1 71 rfl, h1.2.2.1 73 rfl, h1.2.2.1 81 rfl, h1.2.2.1 83 rfl⟩, fun i _ => by rw [e82], h3⟩, h1.2.2.1 59 rfl, h1.2.2.1 80 rfl, h1.2.2.1 88 rfl, h1.2.2.1 90 rfl, h1.1 89 rfl, h1.1 91 rfl⟩
def P_keep : RP := fun As σ => match As with
  | [.int c] => (0 ≤ c ∧ c < 4000) ∧ (0 ≤ (gI σ 69) ∧ (gI σ 69) < 700)
  | _ => False
def Q_keep : RQ := fun As σ w τ => match As with
  | [.int c] => w = none ∧ Fk σ τ ∧ gI τ 66 = gI σ 66 ∧ gI τ 69 = gI σ 69
  | _ => False
set_option maxRecDepth 100000 in
set_option maxHeartbeats 4000000 in
theorem b_keep : Bod Bkeep [] P_keep Q_keep := by
  · intro As σ hP G hB hW
    unfold P_keep at hP
    split at hP
    next c => 
      unfold Q_keep at hB
      dsimp only at hB
      apply hB
      dsimp only [rgo, rfd, Bkeep, Nat.beq, rwp, rst, lv_args, rlk, rs1, rs2, rdl, rky, rct, rcs, rcd, rno, rsw, Value.category, List.filter, List.take, List.drop, List.reverse, List.reverseAux, List.cons_append, List.nil_append, Option.toList, Int.toNat, Int.reduceToNat, if_pos, if_neg, reduceIte, ↓reduceIte, Nat.reduceAdd, Nat.reduceEqDiff, Nat.reduceBEq, beq_self_eq_true, Bool.not_true, Bool.not_false, Bool.and_true, Bool.and_false, Bool.true_and, Bool.false_and, gI_sI, gI_sL, gI_sA, gI_sM, gL_sI, gL_sL, gL_sA, gL_sM, aI_sI, aI_sL, aI_sA, aI_sM, aL_sI, aL_sL, aL_sA, aL_sM, Bkeep_0, Bkeep_17, Bkeep_29, Bkeep_33, Bkeep_34, oi_0, oi_1]; try dsimp only
      refine ⟨rfl, rfl, rfl, rfl, (in_70 (by lia) (by lia)), fun h1 => ?_, fun h1 => ?_⟩
      · apply hB
        dsimp only [rgo, rfd, Bkeep, Nat.beq, rwp, rst, lv_args, rlk, rs1, rs2, rdl, rky, rct, rcs, rcd, rno, rsw, Value.category, List.filter, List.take, List.drop, List.reverse, List.reverseAux, List.cons_append, List.nil_append, Option.toList, Int.toNat, Int.reduceToNat, if_pos, if_neg, reduceIte, ↓reduceIte, Nat.reduceAdd, Nat.reduceEqDiff, Nat.reduceBEq, beq_self_eq_true, Bool.not_true, Bool.not_false, Bool.and_true, Bool.and_false, Bool.true_and, Bool.false_and, gI_sI, gI_sL, gI_sA, gI_sM, gL_sI, gL_sL, gL_sA, gL_sM, aI_sI, aI_sL, aI_sA, aI_sM, aL_sI, aL_sL, aL_sA, aL_sM, Bkeep_0, Bkeep_17, Bkeep_29, Bkeep_33, Bkeep_34, oi_0, oi_1]; try dsimp only
        apply hB
        dsimp only [rgo, rfd, Bkeep, Nat.beq, rwp, rst, lv_args, rlk, rs1, rs2, rdl, rky, rct, rcs, rcd, rno, rsw, Value.category, List.filter, List.take, List.drop, List.reverse, List.reverseAux, List.cons_append, List.nil_append, Option.toList, Int.toNat, Int.reduceToNat, if_pos, if_neg, reduceIte, ↓reduceIte, Nat.reduceAdd, Nat.reduceEqDiff, Nat.reduceBEq, beq_self_eq_true, Bool.not_true, Bool.not_false, Bool.and_true, Bool.and_false, Bool.true_and, Bool.false_and, gI_sI, gI_sL, gI_sA, gI_sM, gL_sI, gL_sL, gL_sA, gL_sM, aI_sI, aI_sL, aI_sA, aI_sM, aL_sI, aL_sL, aL_sA, aL_sM, Bkeep_0, Bkeep_17, Bkeep_29, Bkeep_33, Bkeep_34, oi_0, oi_1]; try dsimp only
        refine ⟨rfl, (in_84 (by lia) (by lia)), Or.inl rfl, rfl, rfl, rfl, rfl, (in_72 (by lia) (by lia)), rfl, (in_85 (by lia) (by lia)), ?_⟩
        exact ⟨rfl, by (repeat (first | exact Fk.rf | refine Fk.a ?_ rfl | refine Fk.i ?_ rfl | refine Fk.m ?_ rfl)), rfl, rfl⟩
      · apply hB
        dsimp only [rgo, rfd, Bkeep, Nat.beq, rwp, rst, lv_args, rlk, rs1, rs2, rdl, rky, rct, rcs, rcd, rno, rsw, Value.category, List.filter, List.take, List.drop, List.reverse, List.reverseAux, List.cons_append, List.nil_append, Option.toList, Int.toNat, Int.reduceToNat, if_pos, if_neg, reduceIte, ↓reduceIte, Nat.reduceAdd, Nat.reduceEqDiff, Nat.reduceBEq, beq_self_eq_true, Bool.not_true, Bool.not_false, Bool.and_true, Bool.and_false, Bool.true_and, Bool.false_and, gI_sI, gI_sL, gI_sA, gI_sM, gL_sI, gL_sL, gL_sA, gL_sM, aI_sI, aI_sL, aI_sA, aI_sM, aL_sI, aL_sL, aL_sA, aL_sM, Bkeep_0, Bkeep_17, Bkeep_29, Bkeep_33, Bkeep_34, oi_0, oi_1]; try dsimp only
        refine ⟨rfl, rfl, rfl, (in_71 (by lia) (by lia)), fun h2 => ?_, fun h2 => ?_⟩
        · apply hB
          dsimp only [rgo, rfd, Bkeep, Nat.beq, rwp, rst, lv_args, rlk, rs1, rs2, rdl, rky, rct, rcs, rcd, rno, rsw, Value.category, List.filter, List.take, List.drop, List.reverse, List.reverseAux, List.cons_append, List.nil_append, Option.toList, Int.toNat, Int.reduceToNat, if_pos, if_neg, reduceIte, ↓reduceIte, Nat.reduceAdd, Nat.reduceEqDiff, Nat.reduceBEq, beq_self_eq_true, Bool.not_true, Bool.not_false, Bool.and_true, Bool.and_false, Bool.true_and, Bool.false_and, gI_sI, gI_sL, gI_sA, gI_sM, gL_sI, gL_sL, gL_sA, gL_sM, aI_sI, aI_sL, aI_sA, aI_sM, aL_sI, aL_sL, aL_sA, aL_sM, Bkeep_0, Bkeep_17, Bkeep_29, Bkeep_33, Bkeep_34, oi_0, oi_1]; try dsimp only
          apply hB
          dsimp only [rgo, rfd, Bkeep, Nat.beq, rwp, rst, lv_args, rlk, rs1, rs2, rdl, rky, rct, rcs, rcd, rno, rsw, Value.category, List.filter, List.take, List.drop, List.reverse, List.reverseAux, List.cons_append, List.nil_append, Option.toList, Int.toNat, Int.reduceToNat, if_pos, if_neg, reduceIte, ↓reduceIte, Nat.reduceAdd, Nat.reduceEqDiff, Nat.reduceBEq, beq_self_eq_true, Bool.not_true, Bool.not_false, Bool.and_true, Bool.and_false, Bool.true_and, Bool.false_and, gI_sI, gI_sL, gI_sA, gI_sM, gL_sI, gL_sL, gL_sA, gL_sM, aI_sI, aI_sL, aI_sA, aI_sM, aL_sI, aL_sL, aL_sA, aL_sM, Bkeep_0, Bkeep_17, Bkeep_29, Bkeep_33, Bkeep_34, oi_0, oi_1]; try dsimp only
          refine ⟨rfl, (in_84 (by lia) (by lia)), Or.inl rfl, rfl, rfl, rfl, rfl, (in_72 (by lia) (by lia)), rfl, (in_85 (by lia) (by lia)), ?_⟩
          exact ⟨rfl, by (repeat (first | exact Fk.rf | refine Fk.a ?_ rfl | refine Fk.i ?_ rfl | refine Fk.m ?_ rfl)), rfl, rfl⟩
        · apply hB
          dsimp only [rgo, rfd, Bkeep, Nat.beq, rwp, rst, lv_args, rlk, rs1, rs2, rdl, rky, rct, rcs, rcd, rno, rsw, Value.category, List.filter, List.take, List.drop, List.reverse, List.reverseAux, List.cons_append, List.nil_append, Option.toList, Int.toNat, Int.reduceToNat, if_pos, if_neg, reduceIte, ↓reduceIte, Nat.reduceAdd, Nat.reduceEqDiff, Nat.reduceBEq, beq_self_eq_true, Bool.not_true, Bool.not_false, Bool.and_true, Bool.and_false, Bool.true_and, Bool.false_and, gI_sI, gI_sL, gI_sA, gI_sM, gL_sI, gL_sL, gL_sA, gL_sM, aI_sI, aI_sL, aI_sA, aI_sM, aL_sI, aL_sL, aL_sA, aL_sM, Bkeep_0, Bkeep_17, Bkeep_29, Bkeep_33, Bkeep_34, oi_0, oi_1]; try dsimp only
          apply hB
          dsimp only [rgo, rfd, Bkeep, Nat.beq, rwp, rst, lv_args, rlk, rs1, rs2, rdl, rky, rct, rcs, rcd, rno, rsw, Value.category, List.filter, List.take, List.drop, List.reverse, List.reverseAux, List.cons_append, List.nil_append, Option.toList, Int.toNat, Int.reduceToNat, if_pos, if_neg, reduceIte, ↓reduceIte, Nat.reduceAdd, Nat.reduceEqDiff, Nat.reduceBEq, beq_self_eq_true, Bool.not_true, Bool.not_false, Bool.and_true, Bool.and_false, Bool.true_and, Bool.false_and, gI_sI, gI_sL, gI_sA, gI_sM, gL_sI, gL_sL, gL_sA, gL_sM, aI_sI, aI_sL, aI_sA, aI_sM, aL_sI, aL_sL, aL_sA, aL_sM, Bkeep_0, Bkeep_17, Bkeep_29, Bkeep_33, Bkeep_34, oi_0, oi_1]; try dsimp only
          refine ⟨rfl, (in_84 (by lia) (by lia)), Or.inr rfl, rfl, rfl, rfl, rfl, (in_72 (by lia) (by lia)), rfl, (in_85 (by lia) (by lia)), ?_⟩
          exact ⟨rfl, by (repeat (first | exact Fk.rf | refine Fk.a ?_ rfl | refine Fk.i ?_ rfl | refine Fk.m ?_ rfl)), rfl, rfl⟩
    next => exact hP.elim
theorem m_keep (l : Launch) : RMet l 1 106 P_keep Q_keep := by
  refine RMet.by Bkeep [] rokeep okBkeep ct0 ?_ b_keep
  · intro As σ hP
    unfold P_keep at hP
    split at hP
    next => exact Nat.le_of_ble_eq_true rfl
    next => exact hP.elim
set_option maxRecDepth 100000 in
theorem e_keep (l : Launch) : RMetE l 1 106 P_keep Q_keep := by
  refine RMetE.by Bkeep [] rfl rfl rokeep okBkeep ctE0 ?_ b_keep
  · intro As σ hP
    unfold P_keep at hP
    split at hP
    next => exact Nat.le_of_ble_eq_true rfl
    next => exact hP.elim
def P_declared : RP := fun As σ => match As with
  | [.int c, .int v] => LI σ ∧ (0 ≤ c ∧ c < 4000) ∧ (0 ≤ v ∧ v < 60) ∧ (¬ (aI σ 21 c.toNatClampNeg) = 0 → 1 ≤ (gI σ 69))
  | _ => False
def Q_declared : RQ := fun As σ w τ => match As with
  | [.int c, .int v] => w = none ∧ (((aI σ 21 c.toNatClampNeg) = 0 ∧ JT σ τ 0 True) ∨ (¬ (aI σ 21 c.toNatClampNeg) = 0 ∧ JT σ τ 1 (VN σ 1)))
  | _ => False
set_option maxRecDepth 100000 in
set_option maxHeartbeats 4000000 in
theorem b_declared : Bod Bdeclared [(76, P_cast, Q_cast), (70, P_err, Q_err), (75, P_fits, Q_fits), (79, P_isBad, Q_isBad)] P_declared Q_declared := by
  · intro As σ hP G hB hW
    unfold P_declared at hP
    split at hP
    next c v => 
      unfold Q_declared at hB
      dsimp only at hB
      obtain ⟨hLI, hc, hv, hbl⟩ := hP
      have hl69 := hLI.1
      apply hB
      dsimp only [rgo, rfd, Bdeclared, Nat.beq, rwp, rst, lv_args, rlk, rs1, rs2, rdl, rky, rct, rcs, rcd, rno, rsw, Value.category, List.filter, List.take, List.drop, List.reverse, List.reverseAux, List.cons_append, List.nil_append, Option.toList, Int.toNat, Int.reduceToNat, if_pos, if_neg, reduceIte, ↓reduceIte, Nat.reduceAdd, Nat.reduceEqDiff, Nat.reduceBEq, beq_self_eq_true, Bool.not_true, Bool.not_false, Bool.and_true, Bool.and_false, Bool.true_and, Bool.false_and, gI_sI, gI_sL, gI_sA, gI_sM, gL_sI, gL_sL, gL_sA, gL_sM, aI_sI, aI_sL, aI_sA, aI_sM, aL_sI, aL_sL, aL_sA, aL_sM, Bdeclared_0, Bdeclared_9, Bdeclared_10, Bdeclared_31, Bdeclared_32, Bdeclared_49, Bdeclared_64, Bdeclared_78, Bdeclared_90, Bdeclared_94, Bdeclared_95, oi_0, oi_1, oi_5, P_cast, P_err, P_fits, P_isBad]; try dsimp only
      refine ⟨rfl, rfl, (in_21 (by lia) (by lia)), fun h1 => ?_, fun h1 => ?_⟩
      · have h1l : 1 ≤ gI σ 69 := hbl (by assumption)
        have hl1 := hLI.at (x := gI σ 69 - 1) (by lia) (by lia)
        apply hB
        dsimp only [rgo, rfd, Bdeclared, Nat.beq, rwp, rst, lv_args, rlk, rs1, rs2, rdl, rky, rct, rcs, rcd, rno, rsw, Value.category, List.filter, List.take, List.drop, List.reverse, List.reverseAux, List.cons_append, List.nil_append, Option.toList, Int.toNat, Int.reduceToNat, if_pos, if_neg, reduceIte, ↓reduceIte, Nat.reduceAdd, Nat.reduceEqDiff, Nat.reduceBEq, beq_self_eq_true, Bool.not_true, Bool.not_false, Bool.and_true, Bool.and_false, Bool.true_and, Bool.false_and, gI_sI, gI_sL, gI_sA, gI_sM, gL_sI, gL_sL, gL_sA, gL_sM, aI_sI, aI_sL, aI_sA, aI_sM, aL_sI, aL_sL, aL_sA, aL_sM, Bdeclared_0, Bdeclared_9, Bdeclared_10, Bdeclared_31, Bdeclared_32, Bdeclared_49, Bdeclared_64, Bdeclared_78, Bdeclared_90, Bdeclared_94, Bdeclared_95, oi_0, oi_1, oi_5, P_cast, P_err, P_fits, P_isBad]; try dsimp only
        refine ⟨rfl, rfl, rfl, rfl, (by decide), (⟨by lia, by lia⟩), fun w2 τ2 hq2 => ?_⟩
        obtain ⟨r2, rfl, hr2, e2⟩ := hq2
        obtain rfl := e2.symm
        rcases hr2 with ⟨rfl, hb2⟩ | ⟨rfl, hb2⟩
        · dsimp only [Option.toList, List.cons_append, List.nil_append, Nat.beq, gI_sI, gI_sL, gI_sA, gI_sM, gL_sI, gL_sL, gL_sA, gL_sM, aI_sI, aI_sL, aI_sA, aI_sM, aL_sI, aL_sL, aL_sA, aL_sM]
          try dsimp only [Option.toList, List.cons_append, List.nil_append, Nat.beq, gI_sI, gI_sL, gI_sA, gI_sM, gL_sI, gL_sL, gL_sA, gL_sM, aI_sI, aI_sL, aI_sA, aI_sM, aL_sI, aL_sL, aL_sA, aL_sM] at hb2
          refine ⟨fun h3 => ?_, fun h3 => absurd h3 (by decide)⟩
          clear h3
          apply hB
          dsimp only [rgo, rfd, Bdeclared, Nat.beq, rwp, rst, lv_args, rlk, rs1, rs2, rdl, rky, rct, rcs, rcd, rno, rsw, Value.category, List.filter, List.take, List.drop, List.reverse, List.reverseAux, List.cons_append, List.nil_append, Option.toList, Int.toNat, Int.reduceToNat, if_pos, if_neg, reduceIte, ↓reduceIte, Nat.reduceAdd, Nat.reduceEqDiff, Nat.reduceBEq, beq_self_eq_true, Bool.not_true, Bool.not_false, Bool.and_true, Bool.and_false, Bool.true_and, Bool.false_and, gI_sI, gI_sL, gI_sA, gI_sM, gL_sI, gL_sL, gL_sA, gL_sM, aI_sI, aI_sL, aI_sA, aI_sM, aL_sI, aL_sL, aL_sA, aL_sM, Bdeclared_0, Bdeclared_9, Bdeclared_10, Bdeclared_31, Bdeclared_32, Bdeclared_49, Bdeclared_64, Bdeclared_78, Bdeclared_90, Bdeclared_94, Bdeclared_95, oi_0, oi_1, oi_5, P_cast, P_err, P_fits, P_isBad]; try dsimp only
          refine ⟨rfl, rfl, rfl, (in_44 (by lia) (by lia)), rfl, (by decide), (⟨by lia, by lia⟩), fun w4 τ4 hq4 => ?_⟩
          obtain ⟨r4, rfl, hr4, e4⟩ := hq4
          obtain rfl := e4.symm
          rcases hr4 with rfl | ⟨rfl, hb4⟩
          · dsimp only [Option.toList, List.cons_append, List.nil_append, Nat.beq, gI_sI, gI_sL, gI_sA, gI_sM, gL_sI, gL_sL, gL_sA, gL_sM, aI_sI, aI_sL, aI_sA, aI_sM, aL_sI, aL_sL, aL_sA, aL_sM]
            refine ⟨fun h5 => absurd h5 (by decide), fun h5 => ?_⟩
            clear h5
            apply hB
            dsimp only [rgo, rfd, Bdeclared, Nat.beq, rwp, rst, lv_args, rlk, rs1, rs2, rdl, rky, rct, rcs, rcd, rno, rsw, Value.category, List.filter, List.take, List.drop, List.reverse, List.reverseAux, List.cons_append, List.nil_append, Option.toList, Int.toNat, Int.reduceToNat, if_pos, if_neg, reduceIte, ↓reduceIte, Nat.reduceAdd, Nat.reduceEqDiff, Nat.reduceBEq, beq_self_eq_true, Bool.not_true, Bool.not_false, Bool.and_true, Bool.and_false, Bool.true_and, Bool.false_and, gI_sI, gI_sL, gI_sA, gI_sM, gL_sI, gL_sL, gL_sA, gL_sM, aI_sI, aI_sL, aI_sA, aI_sM, aL_sI, aL_sL, aL_sA, aL_sM, Bdeclared_0, Bdeclared_9, Bdeclared_10, Bdeclared_31, Bdeclared_32, Bdeclared_49, Bdeclared_64, Bdeclared_78, Bdeclared_90, Bdeclared_94, Bdeclared_95, oi_0, oi_1, oi_5, P_cast, P_err, P_fits, P_isBad]; try dsimp only
            refine ⟨rfl, rfl, rfl, (in_73 (by lia) (by lia)), rfl, (by decide), (⟨⟨by lia, by lia⟩, by decide⟩), fun w6 τ6 hq6 => ?_⟩
            obtain ⟨rfl, ea6, eb6, rfl, hne6⟩ := hq6
            dsimp only [Option.toList, List.cons_append, List.nil_append, Nat.beq, gI_sI, gI_sL, gI_sA, gI_sM, gL_sI, gL_sL, gL_sA, gL_sM, aI_sI, aI_sL, aI_sA, aI_sM, aL_sI, aL_sL, aL_sA, aL_sM]
            exact ⟨rfl, Or.inr ⟨by assumption, ⟨by (repeat (first | exact Fk.rf | refine Fk.a ?_ rfl | refine Fk.i ?_ rfl | refine Fk.m ?_ rfl)), by ((try dsimp only [Nat.beq, gI_sI, gI_sL, gI_sA, gI_sM, gL_sI, gL_sL, gL_sA, gL_sM, aI_sI, aI_sL, aI_sA, aI_sM, aL_sI, aL_sL, aL_sA, aL_sM]) <;> first | rfl | lia), by ((try dsimp only [Nat.beq, gI_sI, gI_sL, gI_sA, gI_sM, gL_sI, gL_sL, gL_sA, gL_sM, aI_sI, aI_sL, aI_sA, aI_sM, aL_sI, aL_sL, aL_sA, aL_sM]); intro h66; exact absurd h66 hne6)⟩⟩⟩
          · dsimp only [Option.toList, List.cons_append, List.nil_append, Nat.beq, gI_sI, gI_sL, gI_sA, gI_sM, gL_sI, gL_sL, gL_sA, gL_sM, aI_sI, aI_sL, aI_sA, aI_sM, aL_sI, aL_sL, aL_sA, aL_sM]
            try dsimp only [Option.toList, List.cons_append, List.nil_append, Nat.beq, gI_sI, gI_sL, gI_sA, gI_sM, gL_sI, gL_sL, gL_sA, gL_sM, aI_sI, aI_sL, aI_sA, aI_sM, aL_sI, aL_sL, aL_sA, aL_sM] at hb4
            refine ⟨fun h7 => ?_, fun h7 => absurd h7 (by decide)⟩
            clear h7
            apply hB
            dsimp only [rgo, rfd, Bdeclared, Nat.beq, rwp, rst, lv_args, rlk, rs1, rs2, rdl, rky, rct, rcs, rcd, rno, rsw, Value.category, List.filter, List.take, List.drop, List.reverse, List.reverseAux, List.cons_append, List.nil_append, Option.toList, Int.toNat, Int.reduceToNat, if_pos, if_neg, reduceIte, ↓reduceIte, Nat.reduceAdd, Nat.reduceEqDiff, Nat.reduceBEq, beq_self_eq_true, Bool.not_true, Bool.not_false, Bool.and_true, Bool.and_false, Bool.true_and, Bool.false_and, gI_sI, gI_sL, gI_sA, gI_sM, gL_sI, gL_sL, gL_sA, gL_sM, aI_sI, aI_sL, aI_sA, aI_sM, aL_sI, aL_sL, aL_sA, aL_sM, Bdeclared_0, Bdeclared_9, Bdeclared_10, Bdeclared_31, Bdeclared_32, Bdeclared_49, Bdeclared_64, Bdeclared_78, Bdeclared_90, Bdeclared_94, Bdeclared_95, oi_0, oi_1, oi_5, P_cast, P_err, P_fits, P_isBad]; try dsimp only
            refine ⟨rfl, rfl, rfl, (in_45 (by lia) (by lia)), fun h8 => ?_, fun h8 => ?_⟩
            · apply hB
              dsimp only [rgo, rfd, Bdeclared, Nat.beq, rwp, rst, lv_args, rlk, rs1, rs2, rdl, rky, rct, rcs, rcd, rno, rsw, Value.category, List.filter, List.take, List.drop, List.reverse, List.reverseAux, List.cons_append, List.nil_append, Option.toList, Int.toNat, Int.reduceToNat, if_pos, if_neg, reduceIte, ↓reduceIte, Nat.reduceAdd, Nat.reduceEqDiff, Nat.reduceBEq, beq_self_eq_true, Bool.not_true, Bool.not_false, Bool.and_true, Bool.and_false, Bool.true_and, Bool.false_and, gI_sI, gI_sL, gI_sA, gI_sM, gL_sI, gL_sL, gL_sA, gL_sM, aI_sI, aI_sL, aI_sA, aI_sM, aL_sI, aL_sL, aL_sA, aL_sM, Bdeclared_0, Bdeclared_9, Bdeclared_10, Bdeclared_31, Bdeclared_32, Bdeclared_49, Bdeclared_64, Bdeclared_78, Bdeclared_90, Bdeclared_94, Bdeclared_95, oi_0, oi_1, oi_5, P_cast, P_err, P_fits, P_isBad]; try dsimp only
              apply hB
              dsimp only [rgo, rfd, Bdeclared, Nat.beq, rwp, rst, lv_args, rlk, rs1, rs2, rdl, rky, rct, rcs, rcd, rno, rsw, Value.category, List.filter, List.take, List.drop, List.reverse, List.reverseAux, List.cons_append, List.nil_append, Option.toList, Int.toNat, Int.reduceToNat, if_pos, if_neg, reduceIte, ↓reduceIte, Nat.reduceAdd, Nat.reduceEqDiff, Nat.reduceBEq, beq_self_eq_true, Bool.not_true, Bool.not_false, Bool.and_true, Bool.and_false, Bool.true_and, Bool.false_and, gI_sI, gI_sL, gI_sA, gI_sM, gL_sI, gL_sL, gL_sA, gL_sM, aI_sI, aI_sL, aI_sA, aI_sM, aL_sI, aL_sL, aL_sA, aL_sM, Bdeclared_0, Bdeclared_9, Bdeclared_10, Bdeclared_31, Bdeclared_32, Bdeclared_49, Bdeclared_64, Bdeclared_78, Bdeclared_90, Bdeclared_94, Bdeclared_95, oi_0, oi_1, oi_5, P_cast, P_err, P_fits, P_isBad]; try dsimp only
              refine ⟨rfl, (in_86 (by lia) (by lia)), Or.inl rfl, rfl, rfl, rfl, (in_44 (by lia) (by lia)), rfl, rfl, rfl, (in_72 (by lia) (by lia)), rfl, (by decide), (trivial), fun w9 τ9 hq9 => ?_⟩
              obtain ⟨r9, rfl, e9⟩ := hq9
              obtain rfl := e9.symm
              dsimp only [Option.toList, List.cons_append, List.nil_append, Nat.beq, gI_sI, gI_sL, gI_sA, gI_sM, gL_sI, gL_sL, gL_sA, gL_sM, aI_sI, aI_sL, aI_sA, aI_sM, aL_sI, aL_sL, aL_sA, aL_sM]
              refine ⟨rfl, (in_87 (by lia) (by lia)), ?_⟩
              exact ⟨rfl, Or.inr ⟨by assumption, ⟨by (repeat (first | exact Fk.rf | refine Fk.a ?_ rfl | refine Fk.i ?_ rfl | refine Fk.m ?_ rfl)), by ((try dsimp only [Nat.beq, gI_sI, gI_sL, gI_sA, gI_sM, gL_sI, gL_sL, gL_sA, gL_sM, aI_sI, aI_sL, aI_sA, aI_sM, aL_sI, aL_sL, aL_sA, aL_sM]) <;> first | rfl | lia), by ((try dsimp only [Nat.beq, gI_sI, gI_sL, gI_sA, gI_sM, gL_sI, gL_sL, gL_sA, gL_sM, aI_sI, aI_sL, aI_sA, aI_sM, aL_sI, aL_sL, aL_sA, aL_sM]); intro h66; exact ⟨h66, VN1 (by lia) hb4⟩)⟩⟩⟩
            · apply hB
              dsimp only [rgo, rfd, Bdeclared, Nat.beq, rwp, rst, lv_args, rlk, rs1, rs2, rdl, rky, rct, rcs, rcd, rno, rsw, Value.category, List.filter, List.take, List.drop, List.reverse, List.reverseAux, List.cons_append, List.nil_append, Option.toList, Int.toNat, Int.reduceToNat, if_pos, if_neg, reduceIte, ↓reduceIte, Nat.reduceAdd, Nat.reduceEqDiff, Nat.reduceBEq, beq_self_eq_true, Bool.not_true, Bool.not_false, Bool.and_true, Bool.and_false, Bool.true_and, Bool.false_and, gI_sI, gI_sL, gI_sA, gI_sM, gL_sI, gL_sL, gL_sA, gL_sM, aI_sI, aI_sL, aI_sA, aI_sM, aL_sI, aL_sL, aL_sA, aL_sM, Bdeclared_0, Bdeclared_9, Bdeclared_10, Bdeclared_31, Bdeclared_32, Bdeclared_49, Bdeclared_64, Bdeclared_78, Bdeclared_90, Bdeclared_94, Bdeclared_95, oi_0, oi_1, oi_5, P_cast, P_err, P_fits, P_isBad]; try dsimp only
              refine ⟨rfl, rfl, rfl, (in_71 (by lia) (by lia)), fun h10 => ?_, fun h10 => ?_⟩
              · apply hB
                dsimp only [rgo, rfd, Bdeclared, Nat.beq, rwp, rst, lv_args, rlk, rs1, rs2, rdl, rky, rct, rcs, rcd, rno, rsw, Value.category, List.filter, List.take, List.drop, List.reverse, List.reverseAux, List.cons_append, List.nil_append, Option.toList, Int.toNat, Int.reduceToNat, if_pos, if_neg, reduceIte, ↓reduceIte, Nat.reduceAdd, Nat.reduceEqDiff, Nat.reduceBEq, beq_self_eq_true, Bool.not_true, Bool.not_false, Bool.and_true, Bool.and_false, Bool.true_and, Bool.false_and, gI_sI, gI_sL, gI_sA, gI_sM, gL_sI, gL_sL, gL_sA, gL_sM, aI_sI, aI_sL, aI_sA, aI_sM, aL_sI, aL_sL, aL_sA, aL_sM, Bdeclared_0, Bdeclared_9, Bdeclared_10, Bdeclared_31, Bdeclared_32, Bdeclared_49, Bdeclared_64, Bdeclared_78, Bdeclared_90, Bdeclared_94, Bdeclared_95, oi_0, oi_1, oi_5, P_cast, P_err, P_fits, P_isBad]; try dsimp only
                apply hB
                dsimp only [rgo, rfd, Bdeclared, Nat.beq, rwp, rst, lv_args, rlk, rs1, rs2, rdl, rky, rct, rcs, rcd, rno, rsw, Value.category, List.filter, List.take, List.drop, List.reverse, List.reverseAux, List.cons_append, List.nil_append, Option.toList, Int.toNat, Int.reduceToNat, if_pos, if_neg, reduceIte, ↓reduceIte, Nat.reduceAdd, Nat.reduceEqDiff, Nat.reduceBEq, beq_self_eq_true, Bool.not_true, Bool.not_false, Bool.and_true, Bool.and_false, Bool.true_and, Bool.false_and, gI_sI, gI_sL, gI_sA, gI_sM, gL_sI, gL_sL, gL_sA, gL_sM, aI_sI, aI_sL, aI_sA, aI_sM, aL_sI, aL_sL, aL_sA, aL_sM, Bdeclared_0, Bdeclared_9, Bdeclared_10, Bdeclared_31, Bdeclared_32, Bdeclared_49, Bdeclared_64, Bdeclared_78, Bdeclared_90, Bdeclared_94, Bdeclared_95, oi_0, oi_1, oi_5, P_cast, P_err, P_fits, P_isBad]; try dsimp only
                refine ⟨rfl, (in_86 (by lia) (by lia)), Or.inl rfl, rfl, rfl, rfl, (in_44 (by lia) (by lia)), rfl, rfl, rfl, (in_72 (by lia) (by lia)), rfl, (by decide), (trivial), fun w11 τ11 hq11 => ?_⟩
                obtain ⟨r11, rfl, e11⟩ := hq11
                obtain rfl := e11.symm
                dsimp only [Option.toList, List.cons_append, List.nil_append, Nat.beq, gI_sI, gI_sL, gI_sA, gI_sM, gL_sI, gL_sL, gL_sA, gL_sM, aI_sI, aI_sL, aI_sA, aI_sM, aL_sI, aL_sL, aL_sA, aL_sM]
                refine ⟨rfl, (in_87 (by lia) (by lia)), ?_⟩
                exact ⟨rfl, Or.inr ⟨by assumption, ⟨by (repeat (first | exact Fk.rf | refine Fk.a ?_ rfl | refine Fk.i ?_ rfl | refine Fk.m ?_ rfl)), by ((try dsimp only [Nat.beq, gI_sI, gI_sL, gI_sA, gI_sM, gL_sI, gL_sL, gL_sA, gL_sM, aI_sI, aI_sL, aI_sA, aI_sM, aL_sI, aL_sL, aL_sA, aL_sM]) <;> first | rfl | lia), by ((try dsimp only [Nat.beq, gI_sI, gI_sL, gI_sA, gI_sM, gL_sI, gL_sL, gL_sA, gL_sM, aI_sI, aI_sL, aI_sA, aI_sM, aL_sI, aL_sL, aL_sA, aL_sM]); intro h66; exact ⟨h66, VN1 (by lia) hb4⟩)⟩⟩⟩
              · apply hB
                dsimp only [rgo, rfd, Bdeclared, Nat.beq, rwp, rst, lv_args, rlk, rs1, rs2, rdl, rky, rct, rcs, rcd, rno, rsw, Value.category, List.filter, List.take, List.drop, List.reverse, List.reverseAux, List.cons_append, List.nil_append, Option.toList, Int.toNat, Int.reduceToNat, if_pos, if_neg, reduceIte, ↓reduceIte, Nat.reduceAdd, Nat.reduceEqDiff, Nat.reduceBEq, beq_self_eq_true, Bool.not_true, Bool.not_false, Bool.and_true, Bool.and_false, Bool.true_and, Bool.false_and, gI_sI, gI_sL, gI_sA, gI_sM, gL_sI, gL_sL, gL_sA, gL_sM, aI_sI, aI_sL, aI_sA, aI_sM, aL_sI, aL_sL, aL_sA, aL_sM, Bdeclared_0, Bdeclared_9, Bdeclared_10, Bdeclared_31, Bdeclared_32, Bdeclared_49, Bdeclared_64, Bdeclared_78, Bdeclared_90, Bdeclared_94, Bdeclared_95, oi_0, oi_1, oi_5, P_cast, P_err, P_fits, P_isBad]; try dsimp only
                apply hB
                dsimp only [rgo, rfd, Bdeclared, Nat.beq, rwp, rst, lv_args, rlk, rs1, rs2, rdl, rky, rct, rcs, rcd, rno, rsw, Value.category, List.filter, List.take, List.drop, List.reverse, List.reverseAux, List.cons_append, List.nil_append, Option.toList, Int.toNat, Int.reduceToNat, if_pos, if_neg, reduceIte, ↓reduceIte, Nat.reduceAdd, Nat.reduceEqDiff, Nat.reduceBEq, beq_self_eq_true, Bool.not_true, Bool.not_false, Bool.and_true, Bool.and_false, Bool.true_and, Bool.false_and, gI_sI, gI_sL, gI_sA, gI_sM, gL_sI, gL_sL, gL_sA, gL_sM, aI_sI, aI_sL, aI_sA, aI_sM, aL_sI, aL_sL, aL_sA, aL_sM, Bdeclared_0, Bdeclared_9, Bdeclared_10, Bdeclared_31, Bdeclared_32, Bdeclared_49, Bdeclared_64, Bdeclared_78, Bdeclared_90, Bdeclared_94, Bdeclared_95, oi_0, oi_1, oi_5, P_cast, P_err, P_fits, P_isBad]; try dsimp only
                refine ⟨rfl, (in_86 (by lia) (by lia)), Or.inr rfl, rfl, rfl, rfl, (in_44 (by lia) (by lia)), rfl, rfl, rfl, (in_72 (by lia) (by lia)), rfl, (by decide), (trivial), fun w12 τ12 hq12 => ?_⟩
                obtain ⟨r12, rfl, e12⟩ := hq12
                obtain rfl := e12.symm
                dsimp only [Option.toList, List.cons_append, List.nil_append, Nat.beq, gI_sI, gI_sL, gI_sA, gI_sM, gL_sI, gL_sL, gL_sA, gL_sM, aI_sI, aI_sL, aI_sA, aI_sM, aL_sI, aL_sL, aL_sA, aL_sM]
                refine ⟨rfl, (in_87 (by lia) (by lia)), ?_⟩
                exact ⟨rfl, Or.inr ⟨by assumption, ⟨by (repeat (first | exact Fk.rf | refine Fk.a ?_ rfl | refine Fk.i ?_ rfl | refine Fk.m ?_ rfl)), by ((try dsimp only [Nat.beq, gI_sI, gI_sL, gI_sA, gI_sM, gL_sI, gL_sL, gL_sA, gL_sM, aI_sI, aI_sL, aI_sA, aI_sM, aL_sI, aL_sL, aL_sA, aL_sM]) <;> first | rfl | lia), by ((try dsimp only [Nat.beq, gI_sI, gI_sL, gI_sA, gI_sM, gL_sI, gL_sL, gL_sA, gL_sM, aI_sI, aI_sL, aI_sA, aI_sM, aL_sI, aL_sL, aL_sA, aL_sM]); intro h66; exact ⟨h66, VN1 (by lia) hb4⟩)⟩⟩⟩
        · dsimp only [Option.toList, List.cons_append, List.nil_append, Nat.beq, gI_sI, gI_sL, gI_sA, gI_sM, gL_sI, gL_sL, gL_sA, gL_sM, aI_sI, aI_sL, aI_sA, aI_sM, aL_sI, aL_sL, aL_sA, aL_sM]
          try dsimp only [Option.toList, List.cons_append, List.nil_append, Nat.beq, gI_sI, gI_sL, gI_sA, gI_sM, gL_sI, gL_sL, gL_sA, gL_sM, aI_sI, aI_sL, aI_sA, aI_sM, aL_sI, aL_sL, aL_sA, aL_sM] at hb2
          refine ⟨fun h13 => absurd h13 (by decide), fun h13 => ?_⟩
          clear h13
          apply hB
          dsimp only [rgo, rfd, Bdeclared, Nat.beq, rwp, rst, lv_args, rlk, rs1, rs2, rdl, rky, rct, rcs, rcd, rno, rsw, Value.category, List.filter, List.take, List.drop, List.reverse, List.reverseAux, List.cons_append, List.nil_append, Option.toList, Int.toNat, Int.reduceToNat, if_pos, if_neg, reduceIte, ↓reduceIte, Nat.reduceAdd, Nat.reduceEqDiff, Nat.reduceBEq, beq_self_eq_true, Bool.not_true, Bool.not_false, Bool.and_true, Bool.and_false, Bool.true_and, Bool.false_and, gI_sI, gI_sL, gI_sA, gI_sM, gL_sI, gL_sL, gL_sA, gL_sM, aI_sI, aI_sL, aI_sA, aI_sM, aL_sI, aL_sL, aL_sA, aL_sM, Bdeclared_0, Bdeclared_9, Bdeclared_10, Bdeclared_31, Bdeclared_32, Bdeclared_49, Bdeclared_64, Bdeclared_78, Bdeclared_90, Bdeclared_94, Bdeclared_95, oi_0, oi_1, oi_5, P_cast, P_err, P_fits, P_isBad]; try dsimp only
          exact ⟨rfl, Or.inr ⟨by assumption, ⟨by (repeat (first | exact Fk.rf | refine Fk.a ?_ rfl | refine Fk.i ?_ rfl | refine Fk.m ?_ rfl)), by ((try dsimp only [Nat.beq, gI_sI, gI_sL, gI_sA, gI_sM, gL_sI, gL_sL, gL_sA, gL_sM, aI_sI, aI_sL, aI_sA, aI_sM, aL_sI, aL_sL, aL_sA, aL_sM]) <;> first | rfl | lia), by ((try dsimp only [Nat.beq, gI_sI, gI_sL, gI_sA, gI_sM, gL_sI, gL_sL, gL_sA, gL_sM, aI_sI, aI_sL, aI_sA, aI_sM, aL_sI, aL_sL, aL_sA, aL_sM]); intro h66; exfalso; lia)⟩⟩⟩
      · apply hB
        dsimp only [rgo, rfd, Bdeclared, Nat.beq, rwp, rst, lv_args, rlk, rs1, rs2, rdl, rky, rct, rcs, rcd, rno, rsw, Value.category, List.filter, List.take, List.drop, List.reverse, List.reverseAux, List.cons_append, List.nil_append, Option.toList, Int.toNat, Int.reduceToNat, if_pos, if_neg, reduceIte, ↓reduceIte, Nat.reduceAdd, Nat.reduceEqDiff, Nat.reduceBEq, beq_self_eq_true, Bool.not_true, Bool.not_false, Bool.and_true, Bool.and_false, Bool.true_and, Bool.false_and, gI_sI, gI_sL, gI_sA, gI_sM, gL_sI, gL_sL, gL_sA, gL_sM, aI_sI, aI_sL, aI_sA, aI_sM, aL_sI, aL_sL, aL_sA, aL_sM, Bdeclared_0, Bdeclared_9, Bdeclared_10, Bdeclared_31, Bdeclared_32, Bdeclared_49, Bdeclared_64, Bdeclared_78, Bdeclared_90, Bdeclared_94, Bdeclared_95, oi_0, oi_1, oi_5, P_cast, P_err, P_fits, P_isBad]; try dsimp only
        exact ⟨rfl, Or.inl ⟨by assumption, ⟨by (repeat (first | exact Fk.rf | refine Fk.a ?_ rfl | refine Fk.i ?_ rfl | refine Fk.m ?_ rfl)), by ((try dsimp only [Nat.beq, gI_sI, gI_sL, gI_sA, gI_sM, gL_sI, gL_sL, gL_sA, gL_sM, aI_sI, aI_sL, aI_sA, aI_sM, aL_sI, aL_sL, aL_sA, aL_sM]) <;> first | rfl | lia), by ((try dsimp only [Nat.beq, gI_sI, gI_sL, gI_sA, gI_sM, gL_sI, gL_sL, gL_sA, gL_sM, aI_sI, aI_sL, aI_sA, aI_sM, aL_sI, aL_sL, aL_sA, aL_sM]); intro h66; exact ⟨h66, trivial⟩)⟩⟩⟩
    next => exact hP.elim
theorem m_declared (l : Launch) : RMet l 3 107 P_declared Q_declared := by
  refine RMet.by Bdeclared [(76, P_cast, Q_cast), (70, P_err, Q_err), (75, P_fits, Q_fits), (79, P_isBad, Q_isBad)] rodeclared okBdeclared (ctc (m_cast l) (by decide) (ctc (m_err l) (by decide) (ctc (m_fits l) (by decide) (ctc (m_isBad l) (by decide) ct0)))) ?_ b_declared
  · intro As σ hP
    unfold P_declared at hP
    split at hP
    next => exact Nat.le_of_ble_eq_true rfl
    next => exact hP.elim
set_option maxRecDepth 100000 in
theorem e_declared (l : Launch) : RMetE l 3 107 P_declared Q_declared := by
  refine RMetE.by Bdeclared [(76, P_cast, Q_cast), (70, P_err, Q_err), (75, P_fits, Q_fits), (79, P_isBad, Q_isBad)] rfl rfl rodeclared okBdeclared (ctEc (e_cast l) (by decide) (ctEc (e_err l) (by decide) (ctEc (e_fits l) (by decide) (ctEc (e_isBad l) (by decide) ctE0)))) ?_ b_declared
  · intro As σ hP
    unfold P_declared at hP
    split at hP
    next => exact Nat.le_of_ble_eq_true rfl
    next => exact hP.elim
def P_cased : RP := fun As σ => match As with
  | [.int c, .int k] => LI σ ∧ (0 ≤ c ∧ c < 4000) ∧ 1 ≤ (gI σ 69) ∧ (0 ≤ k ∧ k < 600) ∧ 0 ≤ aI σ 51 k.toNatClampNeg ∧ ((gI σ 66) = 0 → 0 ≤ aI σ 88 k.toNatClampNeg)
  | _ => False
def Q_cased : RQ := fun As σ w τ => match As with
  | [.int c, .int k] => w = none ∧ JT σ τ 1 (VN σ 1)
  | _ => False
set_option maxRecDepth 100000 in
set_option maxHeartbeats 4000000 in
theorem b_cased : Bod Bcased [(70, P_err, Q_err), (75, P_fits, Q_fits), (79, P_isBad, Q_isBad)] P_cased Q_cased := by
  · intro As σ hP G hB hW
    unfold P_cased at hP
    split at hP
    next c k => 
      unfold Q_cased at hB
      dsimp only at hB
      obtain ⟨hLI, hc, h1l, hk6, hkf, hkt⟩ := hP
      have hl69 := hLI.1
      have hl1 := hLI.at (x := gI σ 69 - 1) (by lia) (by lia)
      have t105 : ∀ (X : RS), Fk σ X → gI X 69 = gI σ 69 - 1 → gI X 66 = gI σ 66 → (gI X 66 = 0 → VN σ 1) → ∀ o : Int32, 0 ≤ o → G 105 [(0, .ref 1000), (1, .int c), (2, .int k), (3, .int o)] [] X := by
        intro X hX x69 hE hV
        have x73 : aI X 73 = aI σ 73 := hX.2.2.1 73 rfl
        have loop : ∀ n : Nat, ∀ o : Int32, (4000 - o.toInt).toNat = n → (0 ≤ o ∧ o ≤ 2147483647) → G 105 [(0, .ref 1000), (1, .int c), (2, .int k), (3, .int o)] [] X := by
          intro n
          induction n using Nat.strongRecOn with
          | ind n loop =>
            intro o hk ho
            apply hB
            dsimp only [rgo, rfd, Bcased, Nat.beq, rwp, rst, lv_args, rlk, rs1, rs2, rdl, rky, rct, rcs, rcd, rno, rsw, Value.category, List.filter, List.take, List.drop, List.reverse, List.reverseAux, List.cons_append, List.nil_append, Option.toList, Int.toNat, Int.reduceToNat, if_pos, if_neg, reduceIte, ↓reduceIte, Nat.reduceAdd, Nat.reduceEqDiff, Nat.reduceBEq, beq_self_eq_true, Bool.not_true, Bool.not_false, Bool.and_true, Bool.and_false, Bool.true_and, Bool.false_and, gI_sI, gI_sL, gI_sA, gI_sM, gL_sI, gL_sL, gL_sA, gL_sM, aI_sI, aI_sL, aI_sA, aI_sM, aL_sI, aL_sL, aL_sA, aL_sM, Bcased_0, Bcased_28, Bcased_37, Bcased_38, Bcased_50, Bcased_67, Bcased_83, Bcased_105, Bcased_110, Bcased_121, Bcased_131, Bcased_140, Bcased_156, Bcased_172, Bcased_178, oi_0, oi_1, oi_38, oi_8, P_err, P_fits, P_isBad]; try dsimp only
            refine ⟨fun h1 => ?_, fun h1 => ?_⟩
            · apply hB
              dsimp only [rgo, rfd, Bcased, Nat.beq, rwp, rst, lv_args, rlk, rs1, rs2, rdl, rky, rct, rcs, rcd, rno, rsw, Value.category, List.filter, List.take, List.drop, List.reverse, List.reverseAux, List.cons_append, List.nil_append, Option.toList, Int.toNat, Int.reduceToNat, if_pos, if_neg, reduceIte, ↓reduceIte, Nat.reduceAdd, Nat.reduceEqDiff, Nat.reduceBEq, beq_self_eq_true, Bool.not_true, Bool.not_false, Bool.and_true, Bool.and_false, Bool.true_and, Bool.false_and, gI_sI, gI_sL, gI_sA, gI_sM, gL_sI, gL_sL, gL_sA, gL_sM, aI_sI, aI_sL, aI_sA, aI_sM, aL_sI, aL_sL, aL_sA, aL_sM, Bcased_0, Bcased_28, Bcased_37, Bcased_38, Bcased_50, Bcased_67, Bcased_83, Bcased_105, Bcased_110, Bcased_121, Bcased_131, Bcased_140, Bcased_156, Bcased_172, Bcased_178, oi_0, oi_1, oi_38, oi_8, P_err, P_fits, P_isBad]; try dsimp only
              refine ⟨rfl, rfl, (in_84 (by lia) (by lia)), Or.inr rfl, ?_⟩
              exact ⟨rfl, ⟨hX.a rfl, x69, fun h66 => ⟨hE ▸ h66, hV h66⟩⟩⟩
            · apply hB
              dsimp only [rgo, rfd, Bcased, Nat.beq, rwp, rst, lv_args, rlk, rs1, rs2, rdl, rky, rct, rcs, rcd, rno, rsw, Value.category, List.filter, List.take, List.drop, List.reverse, List.reverseAux, List.cons_append, List.nil_append, Option.toList, Int.toNat, Int.reduceToNat, if_pos, if_neg, reduceIte, ↓reduceIte, Nat.reduceAdd, Nat.reduceEqDiff, Nat.reduceBEq, beq_self_eq_true, Bool.not_true, Bool.not_false, Bool.and_true, Bool.and_false, Bool.true_and, Bool.false_and, gI_sI, gI_sL, gI_sA, gI_sM, gL_sI, gL_sL, gL_sA, gL_sM, aI_sI, aI_sL, aI_sA, aI_sM, aL_sI, aL_sL, aL_sA, aL_sM, Bcased_0, Bcased_28, Bcased_37, Bcased_38, Bcased_50, Bcased_67, Bcased_83, Bcased_105, Bcased_110, Bcased_121, Bcased_131, Bcased_140, Bcased_156, Bcased_172, Bcased_178, oi_0, oi_1, oi_38, oi_8, P_err, P_fits, P_isBad]; try dsimp only
              refine ⟨rfl, rfl, (in_19 (by lia) (by lia)), fun h2 => ?_, fun h2 => ?_⟩
              · apply hB
                dsimp only [rgo, rfd, Bcased, Nat.beq, rwp, rst, lv_args, rlk, rs1, rs2, rdl, rky, rct, rcs, rcd, rno, rsw, Value.category, List.filter, List.take, List.drop, List.reverse, List.reverseAux, List.cons_append, List.nil_append, Option.toList, Int.toNat, Int.reduceToNat, if_pos, if_neg, reduceIte, ↓reduceIte, Nat.reduceAdd, Nat.reduceEqDiff, Nat.reduceBEq, beq_self_eq_true, Bool.not_true, Bool.not_false, Bool.and_true, Bool.and_false, Bool.true_and, Bool.false_and, gI_sI, gI_sL, gI_sA, gI_sM, gL_sI, gL_sL, gL_sA, gL_sM, aI_sI, aI_sL, aI_sA, aI_sM, aL_sI, aL_sL, aL_sA, aL_sM, Bcased_0, Bcased_28, Bcased_37, Bcased_38, Bcased_50, Bcased_67, Bcased_83, Bcased_105, Bcased_110, Bcased_121, Bcased_131, Bcased_140, Bcased_156, Bcased_172, Bcased_178, oi_0, oi_1, oi_38, oi_8, P_err, P_fits, P_isBad]; try dsimp only
                refine hW 105 [(0, .ref 1000), (1, .int c), (2, .int k), (3, .int (o + 1))] _ _ _ (by simp [rdl, rky]) (loop _ ?_ (o + 1) rfl ⟨by lia, by lia⟩)
                exact mlt4 hk (by lia) (by lia)
              · apply hB
                dsimp only [rgo, rfd, Bcased, Nat.beq, rwp, rst, lv_args, rlk, rs1, rs2, rdl, rky, rct, rcs, rcd, rno, rsw, Value.category, List.filter, List.take, List.drop, List.reverse, List.reverseAux, List.cons_append, List.nil_append, Option.toList, Int.toNat, Int.reduceToNat, if_pos, if_neg, reduceIte, ↓reduceIte, Nat.reduceAdd, Nat.reduceEqDiff, Nat.reduceBEq, beq_self_eq_true, Bool.not_true, Bool.not_false, Bool.and_true, Bool.and_false, Bool.true_and, Bool.false_and, gI_sI, gI_sL, gI_sA, gI_sM, gL_sI, gL_sL, gL_sA, gL_sM, aI_sI, aI_sL, aI_sA, aI_sM, aL_sI, aL_sL, aL_sA, aL_sM, Bcased_0, Bcased_28, Bcased_37, Bcased_38, Bcased_50, Bcased_67, Bcased_83, Bcased_105, Bcased_110, Bcased_121, Bcased_131, Bcased_140, Bcased_156, Bcased_172, Bcased_178, oi_0, oi_1, oi_38, oi_8, P_err, P_fits, P_isBad]; try dsimp only
                refine ⟨rfl, rfl, (in_20 (by lia) (by lia)), fun h3 => ?_, fun h3 => ?_⟩
                · apply hB
                  dsimp only [rgo, rfd, Bcased, Nat.beq, rwp, rst, lv_args, rlk, rs1, rs2, rdl, rky, rct, rcs, rcd, rno, rsw, Value.category, List.filter, List.take, List.drop, List.reverse, List.reverseAux, List.cons_append, List.nil_append, Option.toList, Int.toNat, Int.reduceToNat, if_pos, if_neg, reduceIte, ↓reduceIte, Nat.reduceAdd, Nat.reduceEqDiff, Nat.reduceBEq, beq_self_eq_true, Bool.not_true, Bool.not_false, Bool.and_true, Bool.and_false, Bool.true_and, Bool.false_and, gI_sI, gI_sL, gI_sA, gI_sM, gL_sI, gL_sL, gL_sA, gL_sM, aI_sI, aI_sL, aI_sA, aI_sM, aL_sI, aL_sL, aL_sA, aL_sM, Bcased_0, Bcased_28, Bcased_37, Bcased_38, Bcased_50, Bcased_67, Bcased_83, Bcased_105, Bcased_110, Bcased_121, Bcased_131, Bcased_140, Bcased_156, Bcased_172, Bcased_178, oi_0, oi_1, oi_38, oi_8, P_err, P_fits, P_isBad]; try dsimp only
                  refine hW 105 [(0, .ref 1000), (1, .int c), (2, .int k), (3, .int (o + 1))] _ _ _ (by simp [rdl, rky]) (loop _ ?_ (o + 1) rfl ⟨by lia, by lia⟩)
                  exact mlt4 hk (by lia) (by lia)
                · apply hB
                  dsimp only [rgo, rfd, Bcased, Nat.beq, rwp, rst, lv_args, rlk, rs1, rs2, rdl, rky, rct, rcs, rcd, rno, rsw, Value.category, List.filter, List.take, List.drop, List.reverse, List.reverseAux, List.cons_append, List.nil_append, Option.toList, Int.toNat, Int.reduceToNat, if_pos, if_neg, reduceIte, ↓reduceIte, Nat.reduceAdd, Nat.reduceEqDiff, Nat.reduceBEq, beq_self_eq_true, Bool.not_true, Bool.not_false, Bool.and_true, Bool.and_false, Bool.true_and, Bool.false_and, gI_sI, gI_sL, gI_sA, gI_sM, gL_sI, gL_sL, gL_sA, gL_sM, aI_sI, aI_sL, aI_sA, aI_sM, aL_sI, aL_sL, aL_sA, aL_sM, Bcased_0, Bcased_28, Bcased_37, Bcased_38, Bcased_50, Bcased_67, Bcased_83, Bcased_105, Bcased_110, Bcased_121, Bcased_131, Bcased_140, Bcased_156, Bcased_172, Bcased_178, oi_0, oi_1, oi_38, oi_8, P_err, P_fits, P_isBad]; try dsimp only
                  refine ⟨rfl, rfl, (in_84 (by lia) (by lia)), fun h4 => ?_, fun h4 => ?_⟩
                  · apply hB
                    dsimp only [rgo, rfd, Bcased, Nat.beq, rwp, rst, lv_args, rlk, rs1, rs2, rdl, rky, rct, rcs, rcd, rno, rsw, Value.category, List.filter, List.take, List.drop, List.reverse, List.reverseAux, List.cons_append, List.nil_append, Option.toList, Int.toNat, Int.reduceToNat, if_pos, if_neg, reduceIte, ↓reduceIte, Nat.reduceAdd, Nat.reduceEqDiff, Nat.reduceBEq, beq_self_eq_true, Bool.not_true, Bool.not_false, Bool.and_true, Bool.and_false, Bool.true_and, Bool.false_and, gI_sI, gI_sL, gI_sA, gI_sM, gL_sI, gL_sL, gL_sA, gL_sM, aI_sI, aI_sL, aI_sA, aI_sM, aL_sI, aL_sL, aL_sA, aL_sM, Bcased_0, Bcased_28, Bcased_37, Bcased_38, Bcased_50, Bcased_67, Bcased_83, Bcased_105, Bcased_110, Bcased_121, Bcased_131, Bcased_140, Bcased_156, Bcased_172, Bcased_178, oi_0, oi_1, oi_38, oi_8, P_err, P_fits, P_isBad]; try dsimp only
                    refine hW 105 [(0, .ref 1000), (1, .int c), (2, .int k), (3, .int (o + 1))] _ _ _ (by simp [rdl, rky]) (loop _ ?_ (o + 1) rfl ⟨by lia, by lia⟩)
                    exact mlt4 hk (by lia) (by lia)
                  · apply hB
                    dsimp only [rgo, rfd, Bcased, Nat.beq, rwp, rst, lv_args, rlk, rs1, rs2, rdl, rky, rct, rcs, rcd, rno, rsw, Value.category, List.filter, List.take, List.drop, List.reverse, List.reverseAux, List.cons_append, List.nil_append, Option.toList, Int.toNat, Int.reduceToNat, if_pos, if_neg, reduceIte, ↓reduceIte, Nat.reduceAdd, Nat.reduceEqDiff, Nat.reduceBEq, beq_self_eq_true, Bool.not_true, Bool.not_false, Bool.and_true, Bool.and_false, Bool.true_and, Bool.false_and, gI_sI, gI_sL, gI_sA, gI_sM, gL_sI, gL_sL, gL_sA, gL_sM, aI_sI, aI_sL, aI_sA, aI_sM, aL_sI, aL_sL, aL_sA, aL_sM, Bcased_0, Bcased_28, Bcased_37, Bcased_38, Bcased_50, Bcased_67, Bcased_83, Bcased_105, Bcased_110, Bcased_121, Bcased_131, Bcased_140, Bcased_156, Bcased_172, Bcased_178, oi_0, oi_1, oi_38, oi_8, P_err, P_fits, P_isBad]; try dsimp only
                    refine ⟨rfl, rfl, (in_85 (by lia) (by lia)), rfl, rfl, (in_85 (by lia) (by lia)), fun h5 => ?_, fun h5 => ?_⟩
                    · apply hB
                      dsimp only [rgo, rfd, Bcased, Nat.beq, rwp, rst, lv_args, rlk, rs1, rs2, rdl, rky, rct, rcs, rcd, rno, rsw, Value.category, List.filter, List.take, List.drop, List.reverse, List.reverseAux, List.cons_append, List.nil_append, Option.toList, Int.toNat, Int.reduceToNat, if_pos, if_neg, reduceIte, ↓reduceIte, Nat.reduceAdd, Nat.reduceEqDiff, Nat.reduceBEq, beq_self_eq_true, Bool.not_true, Bool.not_false, Bool.and_true, Bool.and_false, Bool.true_and, Bool.false_and, gI_sI, gI_sL, gI_sA, gI_sM, gL_sI, gL_sL, gL_sA, gL_sM, aI_sI, aI_sL, aI_sA, aI_sM, aL_sI, aL_sL, aL_sA, aL_sM, Bcased_0, Bcased_28, Bcased_37, Bcased_38, Bcased_50, Bcased_67, Bcased_83, Bcased_105, Bcased_110, Bcased_121, Bcased_131, Bcased_140, Bcased_156, Bcased_172, Bcased_178, oi_0, oi_1, oi_38, oi_8, P_err, P_fits, P_isBad]; try dsimp only
                      refine hW 105 [(0, .ref 1000), (1, .int c), (2, .int k), (3, .int (o + 1))] _ _ _ (by simp [rdl, rky]) (loop _ ?_ (o + 1) rfl ⟨by lia, by lia⟩)
                      exact mlt4 hk (by lia) (by lia)
                    · apply hB
                      dsimp only [rgo, rfd, Bcased, Nat.beq, rwp, rst, lv_args, rlk, rs1, rs2, rdl, rky, rct, rcs, rcd, rno, rsw, Value.category, List.filter, List.take, List.drop, List.reverse, List.reverseAux, List.cons_append, List.nil_append, Option.toList, Int.toNat, Int.reduceToNat, if_pos, if_neg, reduceIte, ↓reduceIte, Nat.reduceAdd, Nat.reduceEqDiff, Nat.reduceBEq, beq_self_eq_true, Bool.not_true, Bool.not_false, Bool.and_true, Bool.and_false, Bool.true_and, Bool.false_and, gI_sI, gI_sL, gI_sA, gI_sM, gL_sI, gL_sL, gL_sA, gL_sM, aI_sI, aI_sL, aI_sA, aI_sM, aL_sI, aL_sL, aL_sA, aL_sM, Bcased_0, Bcased_28, Bcased_37, Bcased_38, Bcased_50, Bcased_67, Bcased_83, Bcased_105, Bcased_110, Bcased_121, Bcased_131, Bcased_140, Bcased_156, Bcased_172, Bcased_178, oi_0, oi_1, oi_38, oi_8, P_err, P_fits, P_isBad]; try dsimp only
                      refine ⟨rfl, rfl, rfl, (in_73 (by lia) (by lia)), rfl, (by decide), (⟨⟨by rw [x73, x69]; lia, by rw [x73, x69]; lia⟩, by decide⟩), fun w6 τ6 hq6 => ?_⟩
                      obtain ⟨rfl, ea6, eb6, rfl, hne6⟩ := hq6
                      dsimp only [Option.toList, List.cons_append, List.nil_append, Nat.beq, gI_sI, gI_sL, gI_sA, gI_sM, gL_sI, gL_sL, gL_sA, gL_sM, aI_sI, aI_sL, aI_sA, aI_sM, aL_sI, aL_sL, aL_sA, aL_sM]
                      exact ⟨rfl, ⟨(hX.i rfl).i rfl, x69, fun h66 => absurd h66 hne6⟩⟩
        intro o ho
        exact loop _ o rfl ⟨ho, by lia⟩
      apply hB
      dsimp only [rgo, rfd, Bcased, Nat.beq, rwp, rst, lv_args, rlk, rs1, rs2, rdl, rky, rct, rcs, rcd, rno, rsw, Value.category, List.filter, List.take, List.drop, List.reverse, List.reverseAux, List.cons_append, List.nil_append, Option.toList, Int.toNat, Int.reduceToNat, if_pos, if_neg, reduceIte, ↓reduceIte, Nat.reduceAdd, Nat.reduceEqDiff, Nat.reduceBEq, beq_self_eq_true, Bool.not_true, Bool.not_false, Bool.and_true, Bool.and_false, Bool.true_and, Bool.false_and, gI_sI, gI_sL, gI_sA, gI_sM, gL_sI, gL_sL, gL_sA, gL_sM, aI_sI, aI_sL, aI_sA, aI_sM, aL_sI, aL_sL, aL_sA, aL_sM, Bcased_0, Bcased_28, Bcased_37, Bcased_38, Bcased_50, Bcased_67, Bcased_83, Bcased_105, Bcased_110, Bcased_121, Bcased_131, Bcased_140, Bcased_156, Bcased_172, Bcased_178, oi_0, oi_1, oi_38, oi_8, P_err, P_fits, P_isBad]; try dsimp only
      refine ⟨rfl, rfl, rfl, rfl, (in_84 (by lia) (by lia)), Or.inl rfl, rfl, rfl, (by decide), (⟨by lia, by lia⟩), fun w1 τ1 hq1 => ?_⟩
      obtain ⟨r1, rfl, hr1, e1⟩ := hq1
      obtain rfl := e1.symm
      rcases hr1 with ⟨rfl, hb1⟩ | ⟨rfl, hb1⟩
      · dsimp only [Option.toList, List.cons_append, List.nil_append, Nat.beq, gI_sI, gI_sL, gI_sA, gI_sM, gL_sI, gL_sL, gL_sA, gL_sM, aI_sI, aI_sL, aI_sA, aI_sM, aL_sI, aL_sL, aL_sA, aL_sM]
        try dsimp only [Option.toList, List.cons_append, List.nil_append, Nat.beq, gI_sI, gI_sL, gI_sA, gI_sM, gL_sI, gL_sL, gL_sA, gL_sM, aI_sI, aI_sL, aI_sA, aI_sM, aL_sI, aL_sL, aL_sA, aL_sM] at hb1
        refine ⟨fun h2 => absurd h2 (by decide), fun h2 => ?_⟩
        clear h2
        apply hB
        dsimp only [rgo, rfd, Bcased, Nat.beq, rwp, rst, lv_args, rlk, rs1, rs2, rdl, rky, rct, rcs, rcd, rno, rsw, Value.category, List.filter, List.take, List.drop, List.reverse, List.reverseAux, List.cons_append, List.nil_append, Option.toList, Int.toNat, Int.reduceToNat, if_pos, if_neg, reduceIte, ↓reduceIte, Nat.reduceAdd, Nat.reduceEqDiff, Nat.reduceBEq, beq_self_eq_true, Bool.not_true, Bool.not_false, Bool.and_true, Bool.and_false, Bool.true_and, Bool.false_and, gI_sI, gI_sL, gI_sA, gI_sM, gL_sI, gL_sL, gL_sA, gL_sM, aI_sI, aI_sL, aI_sA, aI_sM, aL_sI, aL_sL, aL_sA, aL_sM, Bcased_0, Bcased_28, Bcased_37, Bcased_38, Bcased_50, Bcased_67, Bcased_83, Bcased_105, Bcased_110, Bcased_121, Bcased_131, Bcased_140, Bcased_156, Bcased_172, Bcased_178, oi_0, oi_1, oi_38, oi_8, P_err, P_fits, P_isBad]; try dsimp only
        refine ⟨rfl, rfl, (in_88 (by lia) (by lia)), fun h3 => ?_, fun h3 => ?_⟩
        · apply hB
          dsimp only [rgo, rfd, Bcased, Nat.beq, rwp, rst, lv_args, rlk, rs1, rs2, rdl, rky, rct, rcs, rcd, rno, rsw, Value.category, List.filter, List.take, List.drop, List.reverse, List.reverseAux, List.cons_append, List.nil_append, Option.toList, Int.toNat, Int.reduceToNat, if_pos, if_neg, reduceIte, ↓reduceIte, Nat.reduceAdd, Nat.reduceEqDiff, Nat.reduceBEq, beq_self_eq_true, Bool.not_true, Bool.not_false, Bool.and_true, Bool.and_false, Bool.true_and, Bool.false_and, gI_sI, gI_sL, gI_sA, gI_sM, gL_sI, gL_sL, gL_sA, gL_sM, aI_sI, aI_sL, aI_sA, aI_sM, aL_sI, aL_sL, aL_sA, aL_sM, Bcased_0, Bcased_28, Bcased_37, Bcased_38, Bcased_50, Bcased_67, Bcased_83, Bcased_105, Bcased_110, Bcased_121, Bcased_131, Bcased_140, Bcased_156, Bcased_172, Bcased_178, oi_0, oi_1, oi_38, oi_8, P_err, P_fits, P_isBad]; try dsimp only
          refine ⟨rfl, rfl, rfl, (in_71 (by lia) (by lia)), fun h4 => ?_, fun h4 => ?_⟩
          · apply hB
            dsimp only [rgo, rfd, Bcased, Nat.beq, rwp, rst, lv_args, rlk, rs1, rs2, rdl, rky, rct, rcs, rcd, rno, rsw, Value.category, List.filter, List.take, List.drop, List.reverse, List.reverseAux, List.cons_append, List.nil_append, Option.toList, Int.toNat, Int.reduceToNat, if_pos, if_neg, reduceIte, ↓reduceIte, Nat.reduceAdd, Nat.reduceEqDiff, Nat.reduceBEq, beq_self_eq_true, Bool.not_true, Bool.not_false, Bool.and_true, Bool.and_false, Bool.true_and, Bool.false_and, gI_sI, gI_sL, gI_sA, gI_sM, gL_sI, gL_sL, gL_sA, gL_sM, aI_sI, aI_sL, aI_sA, aI_sM, aL_sI, aL_sL, aL_sA, aL_sM, Bcased_0, Bcased_28, Bcased_37, Bcased_38, Bcased_50, Bcased_67, Bcased_83, Bcased_105, Bcased_110, Bcased_121, Bcased_131, Bcased_140, Bcased_156, Bcased_172, Bcased_178, oi_0, oi_1, oi_38, oi_8, P_err, P_fits, P_isBad]; try dsimp only
            refine ⟨rfl, rfl, rfl, (in_73 (by lia) (by lia)), rfl, (by decide), (⟨⟨by lia, by lia⟩, by decide⟩), fun w5 τ5 hq5 => ?_⟩
            obtain ⟨rfl, ea5, eb5, rfl, hne5⟩ := hq5
            dsimp only [Option.toList, List.cons_append, List.nil_append, Nat.beq, gI_sI, gI_sL, gI_sA, gI_sM, gL_sI, gL_sL, gL_sA, gL_sM, aI_sI, aI_sL, aI_sA, aI_sM, aL_sI, aL_sL, aL_sA, aL_sM]
            exact ⟨rfl, ⟨by (repeat (first | exact Fk.rf | refine Fk.a ?_ rfl | refine Fk.i ?_ rfl | refine Fk.m ?_ rfl)), by ((try dsimp only [Nat.beq, gI_sI, gI_sL, gI_sA, gI_sM, gL_sI, gL_sL, gL_sA, gL_sM, aI_sI, aI_sL, aI_sA, aI_sM, aL_sI, aL_sL, aL_sA, aL_sM]) <;> first | rfl | lia), by ((try dsimp only [Nat.beq, gI_sI, gI_sL, gI_sA, gI_sM, gL_sI, gL_sL, gL_sA, gL_sM, aI_sI, aI_sL, aI_sA, aI_sM, aL_sI, aL_sL, aL_sA, aL_sM]); intro h66; exact absurd h66 hne5)⟩⟩
          · apply hB
            dsimp only [rgo, rfd, Bcased, Nat.beq, rwp, rst, lv_args, rlk, rs1, rs2, rdl, rky, rct, rcs, rcd, rno, rsw, Value.category, List.filter, List.take, List.drop, List.reverse, List.reverseAux, List.cons_append, List.nil_append, Option.toList, Int.toNat, Int.reduceToNat, if_pos, if_neg, reduceIte, ↓reduceIte, Nat.reduceAdd, Nat.reduceEqDiff, Nat.reduceBEq, beq_self_eq_true, Bool.not_true, Bool.not_false, Bool.and_true, Bool.and_false, Bool.true_and, Bool.false_and, gI_sI, gI_sL, gI_sA, gI_sM, gL_sI, gL_sL, gL_sA, gL_sM, aI_sI, aI_sL, aI_sA, aI_sM, aL_sI, aL_sL, aL_sA, aL_sM, Bcased_0, Bcased_28, Bcased_37, Bcased_38, Bcased_50, Bcased_67, Bcased_83, Bcased_105, Bcased_110, Bcased_121, Bcased_131, Bcased_140, Bcased_156, Bcased_172, Bcased_178, oi_0, oi_1, oi_38, oi_8, P_err, P_fits, P_isBad]; try dsimp only
            refine ⟨rfl, rfl, rfl, (in_88 (by lia) (by lia)), rfl, (by decide), (⟨by lia, by lia⟩), fun w6 τ6 hq6 => ?_⟩
            obtain ⟨r6, rfl, hr6, e6⟩ := hq6
            obtain rfl := e6.symm
            rcases hr6 with rfl | ⟨rfl, hb6⟩
            · dsimp only [Option.toList, List.cons_append, List.nil_append, Nat.beq, gI_sI, gI_sL, gI_sA, gI_sM, gL_sI, gL_sL, gL_sA, gL_sM, aI_sI, aI_sL, aI_sA, aI_sM, aL_sI, aL_sL, aL_sA, aL_sM]
              refine ⟨fun h7 => absurd h7 (by decide), fun h7 => ?_⟩
              clear h7
              apply hB
              dsimp only [rgo, rfd, Bcased, Nat.beq, rwp, rst, lv_args, rlk, rs1, rs2, rdl, rky, rct, rcs, rcd, rno, rsw, Value.category, List.filter, List.take, List.drop, List.reverse, List.reverseAux, List.cons_append, List.nil_append, Option.toList, Int.toNat, Int.reduceToNat, if_pos, if_neg, reduceIte, ↓reduceIte, Nat.reduceAdd, Nat.reduceEqDiff, Nat.reduceBEq, beq_self_eq_true, Bool.not_true, Bool.not_false, Bool.and_true, Bool.and_false, Bool.true_and, Bool.false_and, gI_sI, gI_sL, gI_sA, gI_sM, gL_sI, gL_sL, gL_sA, gL_sM, aI_sI, aI_sL, aI_sA, aI_sM, aL_sI, aL_sL, aL_sA, aL_sM, Bcased_0, Bcased_28, Bcased_37, Bcased_38, Bcased_50, Bcased_67, Bcased_83, Bcased_105, Bcased_110, Bcased_121, Bcased_131, Bcased_140, Bcased_156, Bcased_172, Bcased_178, oi_0, oi_1, oi_38, oi_8, P_err, P_fits, P_isBad]; try dsimp only
              refine ⟨rfl, rfl, rfl, (in_73 (by lia) (by lia)), rfl, (by decide), (⟨⟨by lia, by lia⟩, by decide⟩), fun w8 τ8 hq8 => ?_⟩
              obtain ⟨rfl, ea8, eb8, rfl, hne8⟩ := hq8
              dsimp only [Option.toList, List.cons_append, List.nil_append, Nat.beq, gI_sI, gI_sL, gI_sA, gI_sM, gL_sI, gL_sL, gL_sA, gL_sM, aI_sI, aI_sL, aI_sA, aI_sM, aL_sI, aL_sL, aL_sA, aL_sM]
              exact ⟨rfl, ⟨by (repeat (first | exact Fk.rf | refine Fk.a ?_ rfl | refine Fk.i ?_ rfl | refine Fk.m ?_ rfl)), by ((try dsimp only [Nat.beq, gI_sI, gI_sL, gI_sA, gI_sM, gL_sI, gL_sL, gL_sA, gL_sM, aI_sI, aI_sL, aI_sA, aI_sM, aL_sI, aL_sL, aL_sA, aL_sM]) <;> first | rfl | lia), by ((try dsimp only [Nat.beq, gI_sI, gI_sL, gI_sA, gI_sM, gL_sI, gL_sL, gL_sA, gL_sM, aI_sI, aI_sL, aI_sA, aI_sM, aL_sI, aL_sL, aL_sA, aL_sM]); intro h66; exact absurd h66 hne8)⟩⟩
            · dsimp only [Option.toList, List.cons_append, List.nil_append, Nat.beq, gI_sI, gI_sL, gI_sA, gI_sM, gL_sI, gL_sL, gL_sA, gL_sM, aI_sI, aI_sL, aI_sA, aI_sM, aL_sI, aL_sL, aL_sA, aL_sM]
              try dsimp only [Option.toList, List.cons_append, List.nil_append, Nat.beq, gI_sI, gI_sL, gI_sA, gI_sM, gL_sI, gL_sL, gL_sA, gL_sM, aI_sI, aI_sL, aI_sA, aI_sM, aL_sI, aL_sL, aL_sA, aL_sM] at hb6
              refine ⟨fun h9 => ?_, fun h9 => absurd h9 (by decide)⟩
              clear h9
              apply hB
              dsimp only [rgo, rfd, Bcased, Nat.beq, rwp, rst, lv_args, rlk, rs1, rs2, rdl, rky, rct, rcs, rcd, rno, rsw, Value.category, List.filter, List.take, List.drop, List.reverse, List.reverseAux, List.cons_append, List.nil_append, Option.toList, Int.toNat, Int.reduceToNat, if_pos, if_neg, reduceIte, ↓reduceIte, Nat.reduceAdd, Nat.reduceEqDiff, Nat.reduceBEq, beq_self_eq_true, Bool.not_true, Bool.not_false, Bool.and_true, Bool.and_false, Bool.true_and, Bool.false_and, gI_sI, gI_sL, gI_sA, gI_sM, gL_sI, gL_sL, gL_sA, gL_sM, aI_sI, aI_sL, aI_sA, aI_sM, aL_sI, aL_sL, aL_sA, aL_sM, Bcased_0, Bcased_28, Bcased_37, Bcased_38, Bcased_50, Bcased_67, Bcased_83, Bcased_105, Bcased_110, Bcased_121, Bcased_131, Bcased_140, Bcased_156, Bcased_172, Bcased_178, oi_0, oi_1, oi_38, oi_8, P_err, P_fits, P_isBad]; try dsimp only
              refine ⟨rfl, rfl, rfl, rfl, (in_72 (by lia) (by lia)), rfl, (in_85 (by lia) (by lia)), rfl, rfl, (in_51 (by lia) (by lia)), ?_⟩
              exact hW 105 [(0, .ref 1000), (1, .int c), (2, .int k), (3, .int (aI σ 51 k.toNatClampNeg))] _ _ _ (by simp [rdl, rky]) (t105 (sM (sA (sI σ 69 (gI σ 69 - 1)) 84 (upd (aI σ 84) c.toNatClampNeg 0)) 85 (vp_updL (aL σ 85) c.toNatClampNeg (aL σ 72 (gI σ 69 - 1).toNatClampNeg))) (by (repeat (first | exact Fk.rf | refine Fk.a ?_ rfl | refine Fk.i ?_ rfl | refine Fk.m ?_ rfl))) rfl rfl (fun h66 => VN1 (by lia) hb6) _ hkf)
        · apply hB
          dsimp only [rgo, rfd, Bcased, Nat.beq, rwp, rst, lv_args, rlk, rs1, rs2, rdl, rky, rct, rcs, rcd, rno, rsw, Value.category, List.filter, List.take, List.drop, List.reverse, List.reverseAux, List.cons_append, List.nil_append, Option.toList, Int.toNat, Int.reduceToNat, if_pos, if_neg, reduceIte, ↓reduceIte, Nat.reduceAdd, Nat.reduceEqDiff, Nat.reduceBEq, beq_self_eq_true, Bool.not_true, Bool.not_false, Bool.and_true, Bool.and_false, Bool.true_and, Bool.false_and, gI_sI, gI_sL, gI_sA, gI_sM, gL_sI, gL_sL, gL_sA, gL_sM, aI_sI, aI_sL, aI_sA, aI_sM, aL_sI, aL_sL, aL_sA, aL_sM, Bcased_0, Bcased_28, Bcased_37, Bcased_38, Bcased_50, Bcased_67, Bcased_83, Bcased_105, Bcased_110, Bcased_121, Bcased_131, Bcased_140, Bcased_156, Bcased_172, Bcased_178, oi_0, oi_1, oi_38, oi_8, P_err, P_fits, P_isBad]; try dsimp only
          exact ⟨rfl, ⟨by (repeat (first | exact Fk.rf | refine Fk.a ?_ rfl | refine Fk.i ?_ rfl | refine Fk.m ?_ rfl)), by ((try dsimp only [Nat.beq, gI_sI, gI_sL, gI_sA, gI_sM, gL_sI, gL_sL, gL_sA, gL_sM, aI_sI, aI_sL, aI_sA, aI_sM, aL_sI, aL_sL, aL_sA, aL_sM]) <;> first | rfl | lia), by ((try dsimp only [Nat.beq, gI_sI, gI_sL, gI_sA, gI_sM, gL_sI, gL_sL, gL_sA, gL_sM, aI_sI, aI_sL, aI_sA, aI_sM, aL_sI, aL_sL, aL_sA, aL_sM]); intro h66; exfalso; lia)⟩⟩
      · dsimp only [Option.toList, List.cons_append, List.nil_append, Nat.beq, gI_sI, gI_sL, gI_sA, gI_sM, gL_sI, gL_sL, gL_sA, gL_sM, aI_sI, aI_sL, aI_sA, aI_sM, aL_sI, aL_sL, aL_sA, aL_sM]
        try dsimp only [Option.toList, List.cons_append, List.nil_append, Nat.beq, gI_sI, gI_sL, gI_sA, gI_sM, gL_sI, gL_sL, gL_sA, gL_sM, aI_sI, aI_sL, aI_sA, aI_sM, aL_sI, aL_sL, aL_sA, aL_sM] at hb1
        refine ⟨fun h10 => ?_, fun h10 => absurd h10 (by decide)⟩
        clear h10
        apply hB
        dsimp only [rgo, rfd, Bcased, Nat.beq, rwp, rst, lv_args, rlk, rs1, rs2, rdl, rky, rct, rcs, rcd, rno, rsw, Value.category, List.filter, List.take, List.drop, List.reverse, List.reverseAux, List.cons_append, List.nil_append, Option.toList, Int.toNat, Int.reduceToNat, if_pos, if_neg, reduceIte, ↓reduceIte, Nat.reduceAdd, Nat.reduceEqDiff, Nat.reduceBEq, beq_self_eq_true, Bool.not_true, Bool.not_false, Bool.and_true, Bool.and_false, Bool.true_and, Bool.false_and, gI_sI, gI_sL, gI_sA, gI_sM, gL_sI, gL_sL, gL_sA, gL_sM, aI_sI, aI_sL, aI_sA, aI_sM, aL_sI, aL_sL, aL_sA, aL_sM, Bcased_0, Bcased_28, Bcased_37, Bcased_38, Bcased_50, Bcased_67, Bcased_83, Bcased_105, Bcased_110, Bcased_121, Bcased_131, Bcased_140, Bcased_156, Bcased_172, Bcased_178, oi_0, oi_1, oi_38, oi_8, P_err, P_fits, P_isBad]; try dsimp only
        exact ⟨rfl, ⟨by (repeat (first | exact Fk.rf | refine Fk.a ?_ rfl | refine Fk.i ?_ rfl | refine Fk.m ?_ rfl)), by ((try dsimp only [Nat.beq, gI_sI, gI_sL, gI_sA, gI_sM, gL_sI, gL_sL, gL_sA, gL_sM, aI_sI, aI_sL, aI_sA, aI_sM, aL_sI, aL_sL, aL_sA, aL_sM]) <;> first | rfl | lia), by ((try dsimp only [Nat.beq, gI_sI, gI_sL, gI_sA, gI_sM, gL_sI, gL_sL, gL_sA, gL_sM, aI_sI, aI_sL, aI_sA, aI_sM, aL_sI, aL_sL, aL_sA, aL_sM]); intro h66; exfalso; lia)⟩⟩
    next => exact hP.elim
theorem m_cased (l : Launch) : RMet l 3 108 P_cased Q_cased := by
  refine RMet.by Bcased [(70, P_err, Q_err), (75, P_fits, Q_fits), (79, P_isBad, Q_isBad)] rocased okBcased (ctc (m_err l) (by decide) (ctc (m_fits l) (by decide) (ctc (m_isBad l) (by decide) ct0))) ?_ b_cased
  · intro As σ hP
    unfold P_cased at hP
    split at hP
    next => exact Nat.le_of_ble_eq_true rfl
    next => exact hP.elim
set_option maxRecDepth 100000 in
theorem e_cased (l : Launch) : RMetE l 3 108 P_cased Q_cased := by
  refine RMetE.by Bcased [(70, P_err, Q_err), (75, P_fits, Q_fits), (79, P_isBad, Q_isBad)] rfl rfl rocased okBcased (ctEc (e_err l) (by decide) (ctEc (e_fits l) (by decide) (ctEc (e_isBad l) (by decide) ctE0))) ?_ b_cased
  · intro As σ hP
    unfold P_cased at hP
    split at hP
    next => exact Nat.le_of_ble_eq_true rfl
    next => exact hP.elim
def P_returns : RP := fun As σ => match As with
  | [.int c, .int t] => LI σ ∧ (0 ≤ c ∧ c < 4000) ∧ (0 ≤ t ∧ t ≤ 500) ∧ (0 ≤ (gI σ 89) ∧ (gI σ 89) ≤ 11) ∧ (¬ (aI σ 20 c.toNatClampNeg) = 0 → 1 ≤ (gI σ 69))
  | _ => False
def Q_returns : RQ := fun As σ w τ => match As with
  | [.int c, .int t] => w = none ∧ (((aI σ 20 c.toNatClampNeg) = 0 ∧ JT σ τ 0 True) ∨ (¬ (aI σ 20 c.toNatClampNeg) = 0 ∧ JT σ τ 1 (VN σ 1)))
  | _ => False
set_option maxRecDepth 100000 in
set_option maxHeartbeats 4000000 in
theorem b_returns : Bod Breturns [(70, P_err, Q_err), (75, P_fits, Q_fits), (79, P_isBad, Q_isBad), (85, P_resultOf, Q_resultOf)] P_returns Q_returns := by
  · intro As σ hP G hB hW
    unfold P_returns at hP
    split at hP
    next c t => 
      unfold Q_returns at hB
      dsimp only at hB
      obtain ⟨hLI, hc, ht, him, hbl⟩ := hP
      have hl69 := hLI.1
      apply hB
      dsimp only [rgo, rfd, Breturns, Nat.beq, rwp, rst, lv_args, rlk, rs1, rs2, rdl, rky, rct, rcs, rcd, rno, rsw, Value.category, List.filter, List.take, List.drop, List.reverse, List.reverseAux, List.cons_append, List.nil_append, Option.toList, Int.toNat, Int.reduceToNat, if_pos, if_neg, reduceIte, ↓reduceIte, Nat.reduceAdd, Nat.reduceEqDiff, Nat.reduceBEq, beq_self_eq_true, Bool.not_true, Bool.not_false, Bool.and_true, Bool.and_false, Bool.true_and, Bool.false_and, gI_sI, gI_sL, gI_sA, gI_sM, gL_sI, gL_sL, gL_sA, gL_sM, aI_sI, aI_sL, aI_sA, aI_sM, aL_sI, aL_sL, aL_sA, aL_sM, Breturns_0, Breturns_18, Breturns_23, Breturns_30, Breturns_31, Breturns_52, Breturns_53, Breturns_58, Breturns_68, Breturns_80, Breturns_94, oi_1, oi_11, oi_5, P_err, P_fits, P_isBad, P_resultOf]; try dsimp only
      refine ⟨rfl, rfl, (by decide), (⟨by lia, by lia⟩), fun w1 τ1 hq1 => ?_⟩
      obtain ⟨r1, rfl, hr1, e1⟩ := hq1
      obtain rfl := e1.symm
      dsimp only [Option.toList, List.cons_append, List.nil_append, Nat.beq, gI_sI, gI_sL, gI_sA, gI_sM, gL_sI, gL_sL, gL_sA, gL_sM, aI_sI, aI_sL, aI_sA, aI_sM, aL_sI, aL_sL, aL_sA, aL_sM]
      refine ⟨rfl, rfl, (in_20 (by lia) (by lia)), fun h2 => ?_, fun h2 => ?_⟩
      · have h1l : 1 ≤ gI σ 69 := hbl (by assumption)
        have hl1 := hLI.at (x := gI σ 69 - 1) (by lia) (by lia)
        apply hB
        dsimp only [rgo, rfd, Breturns, Nat.beq, rwp, rst, lv_args, rlk, rs1, rs2, rdl, rky, rct, rcs, rcd, rno, rsw, Value.category, List.filter, List.take, List.drop, List.reverse, List.reverseAux, List.cons_append, List.nil_append, Option.toList, Int.toNat, Int.reduceToNat, if_pos, if_neg, reduceIte, ↓reduceIte, Nat.reduceAdd, Nat.reduceEqDiff, Nat.reduceBEq, beq_self_eq_true, Bool.not_true, Bool.not_false, Bool.and_true, Bool.and_false, Bool.true_and, Bool.false_and, gI_sI, gI_sL, gI_sA, gI_sM, gL_sI, gL_sL, gL_sA, gL_sM, aI_sI, aI_sL, aI_sA, aI_sM, aL_sI, aL_sL, aL_sA, aL_sM, Breturns_0, Breturns_18, Breturns_23, Breturns_30, Breturns_31, Breturns_52, Breturns_53, Breturns_58, Breturns_68, Breturns_80, Breturns_94, oi_1, oi_11, oi_5, P_err, P_fits, P_isBad, P_resultOf]; try dsimp only
        refine ⟨rfl, rfl, rfl, rfl, (by decide), (⟨by lia, by lia⟩), fun w3 τ3 hq3 => ?_⟩
        obtain ⟨r3, rfl, hr3, e3⟩ := hq3
        obtain rfl := e3.symm
        rcases hr3 with ⟨rfl, hb3⟩ | ⟨rfl, hb3⟩
        · dsimp only [Option.toList, List.cons_append, List.nil_append, Nat.beq, gI_sI, gI_sL, gI_sA, gI_sM, gL_sI, gL_sL, gL_sA, gL_sM, aI_sI, aI_sL, aI_sA, aI_sM, aL_sI, aL_sL, aL_sA, aL_sM]
          try dsimp only [Option.toList, List.cons_append, List.nil_append, Nat.beq, gI_sI, gI_sL, gI_sA, gI_sM, gL_sI, gL_sL, gL_sA, gL_sM, aI_sI, aI_sL, aI_sA, aI_sM, aL_sI, aL_sL, aL_sA, aL_sM] at hb3
          refine ⟨fun h4 => ?_, fun h4 => absurd h4 (by decide)⟩
          clear h4
          apply hB
          dsimp only [rgo, rfd, Breturns, Nat.beq, rwp, rst, lv_args, rlk, rs1, rs2, rdl, rky, rct, rcs, rcd, rno, rsw, Value.category, List.filter, List.take, List.drop, List.reverse, List.reverseAux, List.cons_append, List.nil_append, Option.toList, Int.toNat, Int.reduceToNat, if_pos, if_neg, reduceIte, ↓reduceIte, Nat.reduceAdd, Nat.reduceEqDiff, Nat.reduceBEq, beq_self_eq_true, Bool.not_true, Bool.not_false, Bool.and_true, Bool.and_false, Bool.true_and, Bool.false_and, gI_sI, gI_sL, gI_sA, gI_sM, gL_sI, gL_sL, gL_sA, gL_sM, aI_sI, aI_sL, aI_sA, aI_sM, aL_sI, aL_sL, aL_sA, aL_sM, Breturns_0, Breturns_18, Breturns_23, Breturns_30, Breturns_31, Breturns_52, Breturns_53, Breturns_58, Breturns_68, Breturns_80, Breturns_94, oi_1, oi_11, oi_5, P_err, P_fits, P_isBad, P_resultOf]; try dsimp only
          refine ⟨fun h5 => ?_, fun h5 => ?_⟩
          · apply hB
            dsimp only [rgo, rfd, Breturns, Nat.beq, rwp, rst, lv_args, rlk, rs1, rs2, rdl, rky, rct, rcs, rcd, rno, rsw, Value.category, List.filter, List.take, List.drop, List.reverse, List.reverseAux, List.cons_append, List.nil_append, Option.toList, Int.toNat, Int.reduceToNat, if_pos, if_neg, reduceIte, ↓reduceIte, Nat.reduceAdd, Nat.reduceEqDiff, Nat.reduceBEq, beq_self_eq_true, Bool.not_true, Bool.not_false, Bool.and_true, Bool.and_false, Bool.true_and, Bool.false_and, gI_sI, gI_sL, gI_sA, gI_sM, gL_sI, gL_sL, gL_sA, gL_sM, aI_sI, aI_sL, aI_sA, aI_sM, aL_sI, aL_sL, aL_sA, aL_sM, Breturns_0, Breturns_18, Breturns_23, Breturns_30, Breturns_31, Breturns_52, Breturns_53, Breturns_58, Breturns_68, Breturns_80, Breturns_94, oi_1, oi_11, oi_5, P_err, P_fits, P_isBad, P_resultOf]; try dsimp only
            refine ⟨rfl, rfl, (by decide), (⟨by lia, by lia⟩), fun w6 τ6 hq6 => ?_⟩
            obtain ⟨r6, rfl, hr6, e6⟩ := hq6
            obtain rfl := e6.symm
            rcases hr6 with rfl | ⟨rfl, hb6⟩
            · dsimp only [Option.toList, List.cons_append, List.nil_append, Nat.beq, gI_sI, gI_sL, gI_sA, gI_sM, gL_sI, gL_sL, gL_sA, gL_sM, aI_sI, aI_sL, aI_sA, aI_sM, aL_sI, aL_sL, aL_sA, aL_sM]
              refine ⟨fun h7 => absurd h7 (by decide), fun h7 => ?_⟩
              clear h7
              apply hB
              dsimp only [rgo, rfd, Breturns, Nat.beq, rwp, rst, lv_args, rlk, rs1, rs2, rdl, rky, rct, rcs, rcd, rno, rsw, Value.category, List.filter, List.take, List.drop, List.reverse, List.reverseAux, List.cons_append, List.nil_append, Option.toList, Int.toNat, Int.reduceToNat, if_pos, if_neg, reduceIte, ↓reduceIte, Nat.reduceAdd, Nat.reduceEqDiff, Nat.reduceBEq, beq_self_eq_true, Bool.not_true, Bool.not_false, Bool.and_true, Bool.and_false, Bool.true_and, Bool.false_and, gI_sI, gI_sL, gI_sA, gI_sM, gL_sI, gL_sL, gL_sA, gL_sM, aI_sI, aI_sL, aI_sA, aI_sM, aL_sI, aL_sL, aL_sA, aL_sM, Breturns_0, Breturns_18, Breturns_23, Breturns_30, Breturns_31, Breturns_52, Breturns_53, Breturns_58, Breturns_68, Breturns_80, Breturns_94, oi_1, oi_11, oi_5, P_err, P_fits, P_isBad, P_resultOf]; try dsimp only
              refine ⟨rfl, rfl, rfl, (in_73 (by lia) (by lia)), rfl, (by decide), (⟨⟨by lia, by lia⟩, by decide⟩), fun w8 τ8 hq8 => ?_⟩
              obtain ⟨rfl, ea8, eb8, rfl, hne8⟩ := hq8
              dsimp only [Option.toList, List.cons_append, List.nil_append, Nat.beq, gI_sI, gI_sL, gI_sA, gI_sM, gL_sI, gL_sL, gL_sA, gL_sM, aI_sI, aI_sL, aI_sA, aI_sM, aL_sI, aL_sL, aL_sA, aL_sM]
              apply hB
              dsimp only [rgo, rfd, Breturns, Nat.beq, rwp, rst, lv_args, rlk, rs1, rs2, rdl, rky, rct, rcs, rcd, rno, rsw, Value.category, List.filter, List.take, List.drop, List.reverse, List.reverseAux, List.cons_append, List.nil_append, Option.toList, Int.toNat, Int.reduceToNat, if_pos, if_neg, reduceIte, ↓reduceIte, Nat.reduceAdd, Nat.reduceEqDiff, Nat.reduceBEq, beq_self_eq_true, Bool.not_true, Bool.not_false, Bool.and_true, Bool.and_false, Bool.true_and, Bool.false_and, gI_sI, gI_sL, gI_sA, gI_sM, gL_sI, gL_sL, gL_sA, gL_sM, aI_sI, aI_sL, aI_sA, aI_sM, aL_sI, aL_sL, aL_sA, aL_sM, Breturns_0, Breturns_18, Breturns_23, Breturns_30, Breturns_31, Breturns_52, Breturns_53, Breturns_58, Breturns_68, Breturns_80, Breturns_94, oi_1, oi_11, oi_5, P_err, P_fits, P_isBad, P_resultOf]; try dsimp only
              exact ⟨rfl, Or.inr ⟨by assumption, ⟨by (repeat (first | exact Fk.rf | refine Fk.a ?_ rfl | refine Fk.i ?_ rfl | refine Fk.m ?_ rfl)), by ((try dsimp only [Nat.beq, gI_sI, gI_sL, gI_sA, gI_sM, gL_sI, gL_sL, gL_sA, gL_sM, aI_sI, aI_sL, aI_sA, aI_sM, aL_sI, aL_sL, aL_sA, aL_sM]) <;> first | rfl | lia), by ((try dsimp only [Nat.beq, gI_sI, gI_sL, gI_sA, gI_sM, gL_sI, gL_sL, gL_sA, gL_sM, aI_sI, aI_sL, aI_sA, aI_sM, aL_sI, aL_sL, aL_sA, aL_sM]); intro h66; exact absurd h66 hne8)⟩⟩⟩
            · dsimp only [Option.toList, List.cons_append, List.nil_append, Nat.beq, gI_sI, gI_sL, gI_sA, gI_sM, gL_sI, gL_sL, gL_sA, gL_sM, aI_sI, aI_sL, aI_sA, aI_sM, aL_sI, aL_sL, aL_sA, aL_sM]
              try dsimp only [Option.toList, List.cons_append, List.nil_append, Nat.beq, gI_sI, gI_sL, gI_sA, gI_sM, gL_sI, gL_sL, gL_sA, gL_sM, aI_sI, aI_sL, aI_sA, aI_sM, aL_sI, aL_sL, aL_sA, aL_sM] at hb6
              refine ⟨fun h9 => ?_, fun h9 => absurd h9 (by decide)⟩
              clear h9
              apply hB
              dsimp only [rgo, rfd, Breturns, Nat.beq, rwp, rst, lv_args, rlk, rs1, rs2, rdl, rky, rct, rcs, rcd, rno, rsw, Value.category, List.filter, List.take, List.drop, List.reverse, List.reverseAux, List.cons_append, List.nil_append, Option.toList, Int.toNat, Int.reduceToNat, if_pos, if_neg, reduceIte, ↓reduceIte, Nat.reduceAdd, Nat.reduceEqDiff, Nat.reduceBEq, beq_self_eq_true, Bool.not_true, Bool.not_false, Bool.and_true, Bool.and_false, Bool.true_and, Bool.false_and, gI_sI, gI_sL, gI_sA, gI_sM, gL_sI, gL_sL, gL_sA, gL_sM, aI_sI, aI_sL, aI_sA, aI_sM, aL_sI, aL_sL, aL_sA, aL_sM, Breturns_0, Breturns_18, Breturns_23, Breturns_30, Breturns_31, Breturns_52, Breturns_53, Breturns_58, Breturns_68, Breturns_80, Breturns_94, oi_1, oi_11, oi_5, P_err, P_fits, P_isBad, P_resultOf]; try dsimp only
              exact ⟨rfl, Or.inr ⟨by assumption, ⟨by (repeat (first | exact Fk.rf | refine Fk.a ?_ rfl | refine Fk.i ?_ rfl | refine Fk.m ?_ rfl)), by ((try dsimp only [Nat.beq, gI_sI, gI_sL, gI_sA, gI_sM, gL_sI, gL_sL, gL_sA, gL_sM, aI_sI, aI_sL, aI_sA, aI_sM, aL_sI, aL_sL, aL_sA, aL_sM]) <;> first | rfl | lia), by ((try dsimp only [Nat.beq, gI_sI, gI_sL, gI_sA, gI_sM, gL_sI, gL_sL, gL_sA, gL_sM, aI_sI, aI_sL, aI_sA, aI_sM, aL_sI, aL_sL, aL_sA, aL_sM]); intro h66; exact ⟨h66, VN1 (by lia) hb6⟩)⟩⟩⟩
          · apply hB
            dsimp only [rgo, rfd, Breturns, Nat.beq, rwp, rst, lv_args, rlk, rs1, rs2, rdl, rky, rct, rcs, rcd, rno, rsw, Value.category, List.filter, List.take, List.drop, List.reverse, List.reverseAux, List.cons_append, List.nil_append, Option.toList, Int.toNat, Int.reduceToNat, if_pos, if_neg, reduceIte, ↓reduceIte, Nat.reduceAdd, Nat.reduceEqDiff, Nat.reduceBEq, beq_self_eq_true, Bool.not_true, Bool.not_false, Bool.and_true, Bool.and_false, Bool.true_and, Bool.false_and, gI_sI, gI_sL, gI_sA, gI_sM, gL_sI, gL_sL, gL_sA, gL_sM, aI_sI, aI_sL, aI_sA, aI_sM, aL_sI, aL_sL, aL_sA, aL_sM, Breturns_0, Breturns_18, Breturns_23, Breturns_30, Breturns_31, Breturns_52, Breturns_53, Breturns_58, Breturns_68, Breturns_80, Breturns_94, oi_1, oi_11, oi_5, P_err, P_fits, P_isBad, P_resultOf]; try dsimp only
            refine ⟨rfl, (by decide), (⟨⟨by lia, by lia⟩, by decide⟩), fun w10 τ10 hq10 => ?_⟩
            obtain ⟨rfl, ea10, eb10, rfl, hne10⟩ := hq10
            dsimp only [Option.toList, List.cons_append, List.nil_append, Nat.beq, gI_sI, gI_sL, gI_sA, gI_sM, gL_sI, gL_sL, gL_sA, gL_sM, aI_sI, aI_sL, aI_sA, aI_sM, aL_sI, aL_sL, aL_sA, aL_sM]
            apply hB
            dsimp only [rgo, rfd, Breturns, Nat.beq, rwp, rst, lv_args, rlk, rs1, rs2, rdl, rky, rct, rcs, rcd, rno, rsw, Value.category, List.filter, List.take, List.drop, List.reverse, List.reverseAux, List.cons_append, List.nil_append, Option.toList, Int.toNat, Int.reduceToNat, if_pos, if_neg, reduceIte, ↓reduceIte, Nat.reduceAdd, Nat.reduceEqDiff, Nat.reduceBEq, beq_self_eq_true, Bool.not_true, Bool.not_false, Bool.and_true, Bool.and_false, Bool.true_and, Bool.false_and, gI_sI, gI_sL, gI_sA, gI_sM, gL_sI, gL_sL, gL_sA, gL_sM, aI_sI, aI_sL, aI_sA, aI_sM, aL_sI, aL_sL, aL_sA, aL_sM, Breturns_0, Breturns_18, Breturns_23, Breturns_30, Breturns_31, Breturns_52, Breturns_53, Breturns_58, Breturns_68, Breturns_80, Breturns_94, oi_1, oi_11, oi_5, P_err, P_fits, P_isBad, P_resultOf]; try dsimp only
            exact ⟨rfl, Or.inr ⟨by assumption, ⟨by (repeat (first | exact Fk.rf | refine Fk.a ?_ rfl | refine Fk.i ?_ rfl | refine Fk.m ?_ rfl)), by ((try dsimp only [Nat.beq, gI_sI, gI_sL, gI_sA, gI_sM, gL_sI, gL_sL, gL_sA, gL_sM, aI_sI, aI_sL, aI_sA, aI_sM, aL_sI, aL_sL, aL_sA, aL_sM]) <;> first | rfl | lia), by ((try dsimp only [Nat.beq, gI_sI, gI_sL, gI_sA, gI_sM, gL_sI, gL_sL, gL_sA, gL_sM, aI_sI, aI_sL, aI_sA, aI_sM, aL_sI, aL_sL, aL_sA, aL_sM]); intro h66; exact absurd h66 hne10)⟩⟩⟩
        · dsimp only [Option.toList, List.cons_append, List.nil_append, Nat.beq, gI_sI, gI_sL, gI_sA, gI_sM, gL_sI, gL_sL, gL_sA, gL_sM, aI_sI, aI_sL, aI_sA, aI_sM, aL_sI, aL_sL, aL_sA, aL_sM]
          try dsimp only [Option.toList, List.cons_append, List.nil_append, Nat.beq, gI_sI, gI_sL, gI_sA, gI_sM, gL_sI, gL_sL, gL_sA, gL_sM, aI_sI, aI_sL, aI_sA, aI_sM, aL_sI, aL_sL, aL_sA, aL_sM] at hb3
          refine ⟨fun h11 => absurd h11 (by decide), fun h11 => ?_⟩
          clear h11
          apply hB
          dsimp only [rgo, rfd, Breturns, Nat.beq, rwp, rst, lv_args, rlk, rs1, rs2, rdl, rky, rct, rcs, rcd, rno, rsw, Value.category, List.filter, List.take, List.drop, List.reverse, List.reverseAux, List.cons_append, List.nil_append, Option.toList, Int.toNat, Int.reduceToNat, if_pos, if_neg, reduceIte, ↓reduceIte, Nat.reduceAdd, Nat.reduceEqDiff, Nat.reduceBEq, beq_self_eq_true, Bool.not_true, Bool.not_false, Bool.and_true, Bool.and_false, Bool.true_and, Bool.false_and, gI_sI, gI_sL, gI_sA, gI_sM, gL_sI, gL_sL, gL_sA, gL_sM, aI_sI, aI_sL, aI_sA, aI_sM, aL_sI, aL_sL, aL_sA, aL_sM, Breturns_0, Breturns_18, Breturns_23, Breturns_30, Breturns_31, Breturns_52, Breturns_53, Breturns_58, Breturns_68, Breturns_80, Breturns_94, oi_1, oi_11, oi_5, P_err, P_fits, P_isBad, P_resultOf]; try dsimp only
          exact ⟨rfl, Or.inr ⟨by assumption, ⟨by (repeat (first | exact Fk.rf | refine Fk.a ?_ rfl | refine Fk.i ?_ rfl | refine Fk.m ?_ rfl)), by ((try dsimp only [Nat.beq, gI_sI, gI_sL, gI_sA, gI_sM, gL_sI, gL_sL, gL_sA, gL_sM, aI_sI, aI_sL, aI_sA, aI_sM, aL_sI, aL_sL, aL_sA, aL_sM]) <;> first | rfl | lia), by ((try dsimp only [Nat.beq, gI_sI, gI_sL, gI_sA, gI_sM, gL_sI, gL_sL, gL_sA, gL_sM, aI_sI, aI_sL, aI_sA, aI_sM, aL_sI, aL_sL, aL_sA, aL_sM]); intro h66; exfalso; lia)⟩⟩⟩
      · apply hB
        dsimp only [rgo, rfd, Breturns, Nat.beq, rwp, rst, lv_args, rlk, rs1, rs2, rdl, rky, rct, rcs, rcd, rno, rsw, Value.category, List.filter, List.take, List.drop, List.reverse, List.reverseAux, List.cons_append, List.nil_append, Option.toList, Int.toNat, Int.reduceToNat, if_pos, if_neg, reduceIte, ↓reduceIte, Nat.reduceAdd, Nat.reduceEqDiff, Nat.reduceBEq, beq_self_eq_true, Bool.not_true, Bool.not_false, Bool.and_true, Bool.and_false, Bool.true_and, Bool.false_and, gI_sI, gI_sL, gI_sA, gI_sM, gL_sI, gL_sL, gL_sA, gL_sM, aI_sI, aI_sL, aI_sA, aI_sM, aL_sI, aL_sL, aL_sA, aL_sM, Breturns_0, Breturns_18, Breturns_23, Breturns_30, Breturns_31, Breturns_52, Breturns_53, Breturns_58, Breturns_68, Breturns_80, Breturns_94, oi_1, oi_11, oi_5, P_err, P_fits, P_isBad, P_resultOf]; try dsimp only
        refine ⟨fun h12 => ?_, fun h12 => ?_⟩
        · apply hB
          dsimp only [rgo, rfd, Breturns, Nat.beq, rwp, rst, lv_args, rlk, rs1, rs2, rdl, rky, rct, rcs, rcd, rno, rsw, Value.category, List.filter, List.take, List.drop, List.reverse, List.reverseAux, List.cons_append, List.nil_append, Option.toList, Int.toNat, Int.reduceToNat, if_pos, if_neg, reduceIte, ↓reduceIte, Nat.reduceAdd, Nat.reduceEqDiff, Nat.reduceBEq, beq_self_eq_true, Bool.not_true, Bool.not_false, Bool.and_true, Bool.and_false, Bool.true_and, Bool.false_and, gI_sI, gI_sL, gI_sA, gI_sM, gL_sI, gL_sL, gL_sA, gL_sM, aI_sI, aI_sL, aI_sA, aI_sM, aL_sI, aL_sL, aL_sA, aL_sM, Breturns_0, Breturns_18, Breturns_23, Breturns_30, Breturns_31, Breturns_52, Breturns_53, Breturns_58, Breturns_68, Breturns_80, Breturns_94, oi_1, oi_11, oi_5, P_err, P_fits, P_isBad, P_resultOf]; try dsimp only
          exact ⟨rfl, Or.inl ⟨by assumption, ⟨by (repeat (first | exact Fk.rf | refine Fk.a ?_ rfl | refine Fk.i ?_ rfl | refine Fk.m ?_ rfl)), by ((try dsimp only [Nat.beq, gI_sI, gI_sL, gI_sA, gI_sM, gL_sI, gL_sL, gL_sA, gL_sM, aI_sI, aI_sL, aI_sA, aI_sM, aL_sI, aL_sL, aL_sA, aL_sM]) <;> first | rfl | lia), by ((try dsimp only [Nat.beq, gI_sI, gI_sL, gI_sA, gI_sM, gL_sI, gL_sL, gL_sA, gL_sM, aI_sI, aI_sL, aI_sA, aI_sM, aL_sI, aL_sL, aL_sA, aL_sM]); intro h66; exact ⟨h66, trivial⟩)⟩⟩⟩
        · apply hB
          dsimp only [rgo, rfd, Breturns, Nat.beq, rwp, rst, lv_args, rlk, rs1, rs2, rdl, rky, rct, rcs, rcd, rno, rsw, Value.category, List.filter, List.take, List.drop, List.reverse, List.reverseAux, List.cons_append, List.nil_append, Option.toList, Int.toNat, Int.reduceToNat, if_pos, if_neg, reduceIte, ↓reduceIte, Nat.reduceAdd, Nat.reduceEqDiff, Nat.reduceBEq, beq_self_eq_true, Bool.not_true, Bool.not_false, Bool.and_true, Bool.and_false, Bool.true_and, Bool.false_and, gI_sI, gI_sL, gI_sA, gI_sM, gL_sI, gL_sL, gL_sA, gL_sM, aI_sI, aI_sL, aI_sA, aI_sM, aL_sI, aL_sL, aL_sA, aL_sM, Breturns_0, Breturns_18, Breturns_23, Breturns_30, Breturns_31, Breturns_52, Breturns_53, Breturns_58, Breturns_68, Breturns_80, Breturns_94, oi_1, oi_11, oi_5, P_err, P_fits, P_isBad, P_resultOf]; try dsimp only
          refine ⟨rfl, (by decide), (⟨⟨by lia, by lia⟩, by decide⟩), fun w13 τ13 hq13 => ?_⟩
          obtain ⟨rfl, ea13, eb13, rfl, hne13⟩ := hq13
          dsimp only [Option.toList, List.cons_append, List.nil_append, Nat.beq, gI_sI, gI_sL, gI_sA, gI_sM, gL_sI, gL_sL, gL_sA, gL_sM, aI_sI, aI_sL, aI_sA, aI_sM, aL_sI, aL_sL, aL_sA, aL_sM]
          apply hB
          dsimp only [rgo, rfd, Breturns, Nat.beq, rwp, rst, lv_args, rlk, rs1, rs2, rdl, rky, rct, rcs, rcd, rno, rsw, Value.category, List.filter, List.take, List.drop, List.reverse, List.reverseAux, List.cons_append, List.nil_append, Option.toList, Int.toNat, Int.reduceToNat, if_pos, if_neg, reduceIte, ↓reduceIte, Nat.reduceAdd, Nat.reduceEqDiff, Nat.reduceBEq, beq_self_eq_true, Bool.not_true, Bool.not_false, Bool.and_true, Bool.and_false, Bool.true_and, Bool.false_and, gI_sI, gI_sL, gI_sA, gI_sM, gL_sI, gL_sL, gL_sA, gL_sM, aI_sI, aI_sL, aI_sA, aI_sM, aL_sI, aL_sL, aL_sA, aL_sM, Breturns_0, Breturns_18, Breturns_23, Breturns_30, Breturns_31, Breturns_52, Breturns_53, Breturns_58, Breturns_68, Breturns_80, Breturns_94, oi_1, oi_11, oi_5, P_err, P_fits, P_isBad, P_resultOf]; try dsimp only
          exact ⟨rfl, Or.inl ⟨by assumption, ⟨by (repeat (first | exact Fk.rf | refine Fk.a ?_ rfl | refine Fk.i ?_ rfl | refine Fk.m ?_ rfl)), by ((try dsimp only [Nat.beq, gI_sI, gI_sL, gI_sA, gI_sM, gL_sI, gL_sL, gL_sA, gL_sM, aI_sI, aI_sL, aI_sA, aI_sM, aL_sI, aL_sL, aL_sA, aL_sM]) <;> first | rfl | lia), by ((try dsimp only [Nat.beq, gI_sI, gI_sL, gI_sA, gI_sM, gL_sI, gL_sL, gL_sA, gL_sM, aI_sI, aI_sL, aI_sA, aI_sM, aL_sI, aL_sL, aL_sA, aL_sM]); intro h66; exact absurd h66 hne13)⟩⟩⟩
    next => exact hP.elim
theorem m_returns (l : Launch) : RMet l 3 109 P_returns Q_returns := by
  refine RMet.by Breturns [(70, P_err, Q_err), (75, P_fits, Q_fits), (79, P_isBad, Q_isBad), (85, P_resultOf, Q_resultOf)] roreturns okBreturns (ctc (m_err l) (by decide) (ctc (m_fits l) (by decide) (ctc (m_isBad l) (by decide) (ctc (m_resultOf l) (by decide) ct0)))) ?_ b_returns
  · intro As σ hP
    unfold P_returns at hP
    split at hP
    next => exact Nat.le_of_ble_eq_true rfl
    next => exact hP.elim
set_option maxRecDepth 100000 in
theorem e_returns (l : Launch) : RMetE l 3 109 P_returns Q_returns := by
  refine RMetE.by Breturns [(70, P_err, Q_err), (75, P_fits, Q_fits), (79, P_isBad, Q_isBad), (85, P_resultOf, Q_resultOf)] rfl rfl roreturns okBreturns (ctEc (e_err l) (by decide) (ctEc (e_fits l) (by decide) (ctEc (e_isBad l) (by decide) (ctEc (e_resultOf l) (by decide) ctE0)))) ?_ b_returns
  · intro As σ hP
    unfold P_returns at hP
    split at hP
    next => exact Nat.le_of_ble_eq_true rfl
    next => exact hP.elim
