def iFg (k : Nat) : Bool := (66 ≤ k && k ≤ 69) || k == 74 || k == 89 || k == 91 || k == 92 || k == 100 || k == 103 || (112 ≤ k && k ≤ 117)
def gFg (k : Nat) : Bool := k == 93 || k == 94
def aFg (k : Nat) : Bool := k == 59 || (70 ≤ k && k ≤ 73) || (75 ≤ k && k ≤ 78) || (80 ≤ k && k ≤ 84) || k == 86 || k == 88 || k == 90 || k == 95 || k == 97 || (104 ≤ k && k ≤ 107) || k == 109 || k == 111
def lFg (k : Nat) : Bool := k == 72 || k == 79 || k == 85 || k == 87 || k == 96 || k == 98 || k == 99 || k == 101 || k == 102 || k == 108 || k == 110
def Fg (σ τ : RS) : Prop := (∀ k, iFg k = false → gI τ k = gI σ k) ∧ (∀ k, gFg k = false → gL τ k = gL σ k) ∧ (∀ k, aFg k = false → aI τ k = aI σ k) ∧ ∀ k, lFg k = false → aL τ k = aL σ k
theorem Fg.rf {σ : RS} : Fg σ σ := ⟨fun _ _ => rfl, fun _ _ => rfl, fun _ _ => rfl, fun _ _ => rfl⟩
theorem Fg.tr {σ τ υ : RS} (h1 : Fg σ τ) (h2 : Fg τ υ) : Fg σ υ := ⟨fun k hk => (h2.1 k hk).trans (h1.1 k hk), fun k hk => (h2.2.1 k hk).trans (h1.2.1 k hk), fun k hk => (h2.2.2.1 k hk).trans (h1.2.2.1 k hk), fun k hk => (h2.2.2.2 k hk).trans (h1.2.2.2 k hk)⟩
theorem Fg.i {σ τ : RS} (h : Fg σ τ) {k : Nat} {v : Int32} (hk : iFg k = true) : Fg σ (sI τ k v) := ⟨fun j hj => by
  rw [gI_sI, nb_ne (fun q => by subst q; rw [hk] at hj; cases hj)]
  exact h.1 j hj, h.2.1, h.2.2.1, h.2.2.2⟩
theorem Fg.g {σ τ : RS} (h : Fg σ τ) {k : Nat} {v : Int64} (hk : gFg k = true) : Fg σ (sL τ k v) := ⟨h.1, fun j hj => by
  rw [gL_sL, nb_ne (fun q => by subst q; rw [hk] at hj; cases hj)]
  exact h.2.1 j hj, h.2.2.1, h.2.2.2⟩
theorem Fg.a {σ τ : RS} (h : Fg σ τ) {k : Nat} {f : Nat → Int32} (hk : aFg k = true) : Fg σ (sA τ k f) := ⟨h.1, h.2.1, fun j hj => by
  rw [aI_sA, nb_ne (fun q => by subst q; rw [hk] at hj; cases hj)]
  exact h.2.2.1 j hj, h.2.2.2⟩
theorem Fg.m {σ τ : RS} (h : Fg σ τ) {k : Nat} {f : Nat → Int64} (hk : lFg k = true) : Fg σ (sM τ k f) := ⟨h.1, h.2.1, h.2.2.1, fun j hj => by
  rw [aL_sM, nb_ne (fun q => by subst q; rw [hk] at hj; cases hj)]
  exact h.2.2.2 j hj⟩
theorem Fj.g {σ τ : RS} (h : Fj σ τ) : Fg σ τ := by
  refine ⟨fun k hk => h.1 k ?_, fun k _ => h.2.1 k, fun k hk => h.2.2.1 k ?_, fun k hk => h.2.2.2 k ?_⟩
  · unfold iFg at hk
    unfold iFj
    simp only [Bool.or_eq_false_iff, Bool.and_eq_false_imp, decide_eq_true_eq, decide_eq_false_iff_not, beq_eq_false_iff_ne] at hk ⊢
    omega
  · unfold aFg at hk
    unfold aFj
    simp only [Bool.or_eq_false_iff, Bool.and_eq_false_imp, decide_eq_true_eq, decide_eq_false_iff_not, beq_eq_false_iff_ne] at hk ⊢
    omega
  · unfold lFg at hk
    unfold lFj
    simp only [Bool.or_eq_false_iff, beq_eq_false_iff_ne] at hk ⊢
    omega
theorem Fu.g2 {σ τ : RS} (h : Fu σ τ) : Fg σ τ := by
  refine ⟨fun k hk => h.1 k ?_, fun k hk => h.2.1 k hk, fun k hk => h.2.2.1 k ?_, fun k hk => h.2.2.2 k ?_⟩
  · unfold iFg at hk
    unfold iFu
    simp only [Bool.or_eq_false_iff, Bool.and_eq_false_imp, decide_eq_true_eq, decide_eq_false_iff_not, beq_eq_false_iff_ne] at hk ⊢
    omega
  · unfold aFg at hk
    unfold aFu
    simp only [Bool.or_eq_false_iff, Bool.and_eq_false_imp, decide_eq_true_eq, decide_eq_false_iff_not, beq_eq_false_iff_ne] at hk ⊢
    omega
  · unfold lFg at hk
    unfold lFu
    simp only [Bool.or_eq_false_iff, beq_eq_false_iff_ne] at hk ⊢
    omega
/-- between two calls: the program that stands is judged, or isn't yet -/
def IG (σ : RS) : Prop := gI σ 91 = 0 ∧ (0 ≤ gI σ 2 ∧ gI σ 2 ≤ 2590) ∧ ((gI σ 68 = 0 ∧ PD σ) ∨ JD σ)
def P_isGood : RP := fun As σ => match As with
  | [] => IG σ
  | _ => False
def Q_isGood : RQ := fun As σ w τ => match As with
  | [] => ∃ r : Int32, w = some (.int r) ∧ (r = 0 ∨ (r = 1 ∧ gI τ 66 = 0)) ∧ JD τ ∧ Fg σ τ
  | _ => False
set_option maxRecDepth 100000 in
set_option maxHeartbeats 4000000 in
theorem b_isGood : Bod BisGood [(82, P_judgeAll, Q_judgeAll)] P_isGood Q_isGood := by
  · intro As σ hP G hB hW
    unfold P_isGood at hP
    split at hP
    next => 
      unfold Q_isGood at hB
      dsimp only at hB
      obtain ⟨h91, hcnt, hig⟩ := hP
      apply hB
      dsimp only [rgo, rfd, BisGood, Nat.beq, rwp, rst, lv_args, rlk, rs1, rs2, rdl, rky, rct, rcs, rcd, rno, rsw, Value.category, List.filter, List.take, List.drop, List.reverse, List.reverseAux, List.cons_append, List.nil_append, Option.toList, Int.toNat, Int.reduceToNat, if_pos, if_neg, reduceIte, ↓reduceIte, Nat.reduceAdd, Nat.reduceEqDiff, Nat.reduceBEq, beq_self_eq_true, Bool.not_true, Bool.not_false, Bool.and_true, Bool.and_false, Bool.true_and, Bool.false_and, gI_sI, gI_sL, gI_sA, gI_sM, gL_sI, gL_sL, gL_sA, gL_sM, aI_sI, aI_sL, aI_sA, aI_sM, aL_sI, aL_sL, aL_sA, aL_sM, BisGood_0, BisGood_7, BisGood_11, BisGood_18, BisGood_22, BisGood_23, oi_0, oi_1, P_judgeAll]; try dsimp only
      refine ⟨rfl, fun h1 => ?_, fun h1 => ?_⟩
      · apply hB
        dsimp only [rgo, rfd, BisGood, Nat.beq, rwp, rst, lv_args, rlk, rs1, rs2, rdl, rky, rct, rcs, rcd, rno, rsw, Value.category, List.filter, List.take, List.drop, List.reverse, List.reverseAux, List.cons_append, List.nil_append, Option.toList, Int.toNat, Int.reduceToNat, if_pos, if_neg, reduceIte, ↓reduceIte, Nat.reduceAdd, Nat.reduceEqDiff, Nat.reduceBEq, beq_self_eq_true, Bool.not_true, Bool.not_false, Bool.and_true, Bool.and_false, Bool.true_and, Bool.false_and, gI_sI, gI_sL, gI_sA, gI_sM, gL_sI, gL_sL, gL_sA, gL_sM, aI_sI, aI_sL, aI_sA, aI_sM, aL_sI, aL_sL, aL_sA, aL_sM, BisGood_0, BisGood_7, BisGood_11, BisGood_18, BisGood_22, BisGood_23, oi_0, oi_1, P_judgeAll]; try dsimp only
        refine ⟨rfl, fun h2 => ?_, fun h2 => ?_⟩
        · apply hB
          dsimp only [rgo, rfd, BisGood, Nat.beq, rwp, rst, lv_args, rlk, rs1, rs2, rdl, rky, rct, rcs, rcd, rno, rsw, Value.category, List.filter, List.take, List.drop, List.reverse, List.reverseAux, List.cons_append, List.nil_append, Option.toList, Int.toNat, Int.reduceToNat, if_pos, if_neg, reduceIte, ↓reduceIte, Nat.reduceAdd, Nat.reduceEqDiff, Nat.reduceBEq, beq_self_eq_true, Bool.not_true, Bool.not_false, Bool.and_true, Bool.and_false, Bool.true_and, Bool.false_and, gI_sI, gI_sL, gI_sA, gI_sM, gL_sI, gL_sL, gL_sA, gL_sM, aI_sI, aI_sL, aI_sA, aI_sM, aL_sI, aL_sL, aL_sA, aL_sM, BisGood_0, BisGood_7, BisGood_11, BisGood_18, BisGood_22, BisGood_23, oi_0, oi_1, P_judgeAll]; try dsimp only
          apply hB
          dsimp only [rgo, rfd, BisGood, Nat.beq, rwp, rst, lv_args, rlk, rs1, rs2, rdl, rky, rct, rcs, rcd, rno, rsw, Value.category, List.filter, List.take, List.drop, List.reverse, List.reverseAux, List.cons_append, List.nil_append, Option.toList, Int.toNat, Int.reduceToNat, if_pos, if_neg, reduceIte, ↓reduceIte, Nat.reduceAdd, Nat.reduceEqDiff, Nat.reduceBEq, beq_self_eq_true, Bool.not_true, Bool.not_false, Bool.and_true, Bool.and_false, Bool.true_and, Bool.false_and, gI_sI, gI_sL, gI_sA, gI_sM, gL_sI, gL_sL, gL_sA, gL_sM, aI_sI, aI_sL, aI_sA, aI_sM, aL_sI, aL_sL, aL_sA, aL_sM, BisGood_0, BisGood_7, BisGood_11, BisGood_18, BisGood_22, BisGood_23, oi_0, oi_1, P_judgeAll]; try dsimp only
          refine ⟨Or.inl rfl, ?_⟩
          exact ⟨_, rfl, Or.inl rfl, hig.elim (fun q => absurd q.1 (by assumption)) id, Fg.rf⟩
        · apply hB
          dsimp only [rgo, rfd, BisGood, Nat.beq, rwp, rst, lv_args, rlk, rs1, rs2, rdl, rky, rct, rcs, rcd, rno, rsw, Value.category, List.filter, List.take, List.drop, List.reverse, List.reverseAux, List.cons_append, List.nil_append, Option.toList, Int.toNat, Int.reduceToNat, if_pos, if_neg, reduceIte, ↓reduceIte, Nat.reduceAdd, Nat.reduceEqDiff, Nat.reduceBEq, beq_self_eq_true, Bool.not_true, Bool.not_false, Bool.and_true, Bool.and_false, Bool.true_and, Bool.false_and, gI_sI, gI_sL, gI_sA, gI_sM, gL_sI, gL_sL, gL_sA, gL_sM, aI_sI, aI_sL, aI_sA, aI_sM, aL_sI, aL_sL, aL_sA, aL_sM, BisGood_0, BisGood_7, BisGood_11, BisGood_18, BisGood_22, BisGood_23, oi_0, oi_1, P_judgeAll]; try dsimp only
          apply hB
          dsimp only [rgo, rfd, BisGood, Nat.beq, rwp, rst, lv_args, rlk, rs1, rs2, rdl, rky, rct, rcs, rcd, rno, rsw, Value.category, List.filter, List.take, List.drop, List.reverse, List.reverseAux, List.cons_append, List.nil_append, Option.toList, Int.toNat, Int.reduceToNat, if_pos, if_neg, reduceIte, ↓reduceIte, Nat.reduceAdd, Nat.reduceEqDiff, Nat.reduceBEq, beq_self_eq_true, Bool.not_true, Bool.not_false, Bool.and_true, Bool.and_false, Bool.true_and, Bool.false_and, gI_sI, gI_sL, gI_sA, gI_sM, gL_sI, gL_sL, gL_sA, gL_sM, aI_sI, aI_sL, aI_sA, aI_sM, aL_sI, aL_sL, aL_sA, aL_sM, BisGood_0, BisGood_7, BisGood_11, BisGood_18, BisGood_22, BisGood_23, oi_0, oi_1, P_judgeAll]; try dsimp only
          refine ⟨Or.inr rfl, ?_⟩
          exact ⟨_, rfl, Or.inr ⟨rfl, by assumption⟩, hig.elim (fun q => absurd q.1 (by assumption)) id, Fg.rf⟩
      · apply hB
        dsimp only [rgo, rfd, BisGood, Nat.beq, rwp, rst, lv_args, rlk, rs1, rs2, rdl, rky, rct, rcs, rcd, rno, rsw, Value.category, List.filter, List.take, List.drop, List.reverse, List.reverseAux, List.cons_append, List.nil_append, Option.toList, Int.toNat, Int.reduceToNat, if_pos, if_neg, reduceIte, ↓reduceIte, Nat.reduceAdd, Nat.reduceEqDiff, Nat.reduceBEq, beq_self_eq_true, Bool.not_true, Bool.not_false, Bool.and_true, Bool.and_false, Bool.true_and, Bool.false_and, gI_sI, gI_sL, gI_sA, gI_sM, gL_sI, gL_sL, gL_sA, gL_sM, aI_sI, aI_sL, aI_sA, aI_sM, aL_sI, aL_sL, aL_sA, aL_sM, BisGood_0, BisGood_7, BisGood_11, BisGood_18, BisGood_22, BisGood_23, oi_0, oi_1, P_judgeAll]; try dsimp only
        refine ⟨rfl, (by decide), (⟨hig.elim (fun q => q.2) (fun q => absurd q.2.1.1 (by rw [show gI σ 68 = 0 by assumption]; decide)), h91, hcnt⟩), fun w3 τ3 hq3 => ?_⟩
        have hw3 := hq3.1
        subst hw3
        dsimp only [Option.toList, List.cons_append, List.nil_append, Nat.beq, gI_sI, gI_sL, gI_sA, gI_sM, gL_sI, gL_sL, gL_sA, gL_sM, aI_sI, aI_sL, aI_sA, aI_sM, aL_sI, aL_sL, aL_sA, aL_sM]
        apply hB
        dsimp only [rgo, rfd, BisGood, Nat.beq, rwp, rst, lv_args, rlk, rs1, rs2, rdl, rky, rct, rcs, rcd, rno, rsw, Value.category, List.filter, List.take, List.drop, List.reverse, List.reverseAux, List.cons_append, List.nil_append, Option.toList, Int.toNat, Int.reduceToNat, if_pos, if_neg, reduceIte, ↓reduceIte, Nat.reduceAdd, Nat.reduceEqDiff, Nat.reduceBEq, beq_self_eq_true, Bool.not_true, Bool.not_false, Bool.and_true, Bool.and_false, Bool.true_and, Bool.false_and, gI_sI, gI_sL, gI_sA, gI_sM, gL_sI, gL_sL, gL_sA, gL_sM, aI_sI, aI_sL, aI_sA, aI_sM, aL_sI, aL_sL, aL_sA, aL_sM, BisGood_0, BisGood_7, BisGood_11, BisGood_18, BisGood_22, BisGood_23, oi_0, oi_1, P_judgeAll]; try dsimp only
        refine ⟨rfl, fun h4 => ?_, fun h4 => ?_⟩
        · apply hB
          dsimp only [rgo, rfd, BisGood, Nat.beq, rwp, rst, lv_args, rlk, rs1, rs2, rdl, rky, rct, rcs, rcd, rno, rsw, Value.category, List.filter, List.take, List.drop, List.reverse, List.reverseAux, List.cons_append, List.nil_append, Option.toList, Int.toNat, Int.reduceToNat, if_pos, if_neg, reduceIte, ↓reduceIte, Nat.reduceAdd, Nat.reduceEqDiff, Nat.reduceBEq, beq_self_eq_true, Bool.not_true, Bool.not_false, Bool.and_true, Bool.and_false, Bool.true_and, Bool.false_and, gI_sI, gI_sL, gI_sA, gI_sM, gL_sI, gL_sL, gL_sA, gL_sM, aI_sI, aI_sL, aI_sA, aI_sM, aL_sI, aL_sL, aL_sA, aL_sM, BisGood_0, BisGood_7, BisGood_11, BisGood_18, BisGood_22, BisGood_23, oi_0, oi_1, P_judgeAll]; try dsimp only
          apply hB
          dsimp only [rgo, rfd, BisGood, Nat.beq, rwp, rst, lv_args, rlk, rs1, rs2, rdl, rky, rct, rcs, rcd, rno, rsw, Value.category, List.filter, List.take, List.drop, List.reverse, List.reverseAux, List.cons_append, List.nil_append, Option.toList, Int.toNat, Int.reduceToNat, if_pos, if_neg, reduceIte, ↓reduceIte, Nat.reduceAdd, Nat.reduceEqDiff, Nat.reduceBEq, beq_self_eq_true, Bool.not_true, Bool.not_false, Bool.and_true, Bool.and_false, Bool.true_and, Bool.false_and, gI_sI, gI_sL, gI_sA, gI_sM, gL_sI, gL_sL, gL_sA, gL_sM, aI_sI, aI_sL, aI_sA, aI_sM, aL_sI, aL_sL, aL_sA, aL_sM, BisGood_0, BisGood_7, BisGood_11, BisGood_18, BisGood_22, BisGood_23, oi_0, oi_1, P_judgeAll]; try dsimp only
          refine ⟨Or.inl rfl, ?_⟩
          obtain ⟨-, hjd, Xj, hx1, hx2⟩ := hq3
          exact ⟨_, rfl, Or.inl rfl, hjd, Fg.tr (Fg.tr (Fg.rf.i rfl) hx1.g) hx2.g2⟩
        · apply hB
          dsimp only [rgo, rfd, BisGood, Nat.beq, rwp, rst, lv_args, rlk, rs1, rs2, rdl, rky, rct, rcs, rcd, rno, rsw, Value.category, List.filter, List.take, List.drop, List.reverse, List.reverseAux, List.cons_append, List.nil_append, Option.toList, Int.toNat, Int.reduceToNat, if_pos, if_neg, reduceIte, ↓reduceIte, Nat.reduceAdd, Nat.reduceEqDiff, Nat.reduceBEq, beq_self_eq_true, Bool.not_true, Bool.not_false, Bool.and_true, Bool.and_false, Bool.true_and, Bool.false_and, gI_sI, gI_sL, gI_sA, gI_sM, gL_sI, gL_sL, gL_sA, gL_sM, aI_sI, aI_sL, aI_sA, aI_sM, aL_sI, aL_sL, aL_sA, aL_sM, BisGood_0, BisGood_7, BisGood_11, BisGood_18, BisGood_22, BisGood_23, oi_0, oi_1, P_judgeAll]; try dsimp only
          apply hB
          dsimp only [rgo, rfd, BisGood, Nat.beq, rwp, rst, lv_args, rlk, rs1, rs2, rdl, rky, rct, rcs, rcd, rno, rsw, Value.category, List.filter, List.take, List.drop, List.reverse, List.reverseAux, List.cons_append, List.nil_append, Option.toList, Int.toNat, Int.reduceToNat, if_pos, if_neg, reduceIte, ↓reduceIte, Nat.reduceAdd, Nat.reduceEqDiff, Nat.reduceBEq, beq_self_eq_true, Bool.not_true, Bool.not_false, Bool.and_true, Bool.and_false, Bool.true_and, Bool.false_and, gI_sI, gI_sL, gI_sA, gI_sM, gL_sI, gL_sL, gL_sA, gL_sM, aI_sI, aI_sL, aI_sA, aI_sM, aL_sI, aL_sL, aL_sA, aL_sM, BisGood_0, BisGood_7, BisGood_11, BisGood_18, BisGood_22, BisGood_23, oi_0, oi_1, P_judgeAll]; try dsimp only
          refine ⟨Or.inr rfl, ?_⟩
          obtain ⟨-, hjd, Xj, hx1, hx2⟩ := hq3
          exact ⟨_, rfl, Or.inr ⟨rfl, by assumption⟩, hjd, Fg.tr (Fg.tr (Fg.rf.i rfl) hx1.g) hx2.g2⟩
    next => exact hP.elim
theorem m_isGood (l : Launch) : RMet l 7 125 P_isGood Q_isGood := by
  refine RMet.by BisGood [(82, P_judgeAll, Q_judgeAll)] roisGood okBisGood (ctc (m_judgeAll l) (by decide) ct0) ?_ b_isGood
  · intro As σ hP
    unfold P_isGood at hP
    split at hP
    next => exact Nat.le_of_ble_eq_true rfl
    next => exact hP.elim
set_option maxRecDepth 100000 in
theorem e_isGood (l : Launch) : RMetE l 7 125 P_isGood Q_isGood := by
  refine RMetE.by BisGood [(82, P_judgeAll, Q_judgeAll)] rfl rfl roisGood okBisGood (ctEc (e_judgeAll l) (by decide) ctE0) ?_ b_isGood
  · intro As σ hP
    unfold P_isGood at hP
    split at hP
    next => exact Nat.le_of_ble_eq_true rfl
    next => exact hP.elim
def P_judge : RP := fun As σ => match As with
  | [] => IG σ
  | _ => False
def Q_judge : RQ := fun As σ w τ => match As with
  | [] => ∃ (r : Int32) (X : RS) (b : Int32), w = some (.int r) ∧ JD X ∧ Fg σ X ∧ τ = sI X 120 b
  | _ => False
set_option maxRecDepth 100000 in
set_option maxHeartbeats 4000000 in
theorem b_judge : Bod Bjudge [(125, P_isGood, Q_isGood)] P_judge Q_judge := by
  · intro As σ hP G hB hW
    unfold P_judge at hP
    split at hP
    next => 
      unfold Q_judge at hB
      dsimp only at hB
      apply hB
      dsimp only [rgo, rfd, Bjudge, Nat.beq, rwp, rst, lv_args, rlk, rs1, rs2, rdl, rky, rct, rcs, rcd, rno, rsw, Value.category, List.filter, List.take, List.drop, List.reverse, List.reverseAux, List.cons_append, List.nil_append, Option.toList, Int.toNat, Int.reduceToNat, if_pos, if_neg, reduceIte, ↓reduceIte, Nat.reduceAdd, Nat.reduceEqDiff, Nat.reduceBEq, beq_self_eq_true, Bool.not_true, Bool.not_false, Bool.and_true, Bool.and_false, Bool.true_and, Bool.false_and, gI_sI, gI_sL, gI_sA, gI_sM, gL_sI, gL_sL, gL_sA, gL_sM, aI_sI, aI_sL, aI_sA, aI_sM, aL_sI, aL_sL, aL_sA, aL_sM, Bjudge_0, Bjudge_10, Bjudge_15, Bjudge_19, oi_m2, P_isGood]; try dsimp only
      refine ⟨rfl, (by decide), (hP), fun w1 τ1 hq1 => ?_⟩
      obtain ⟨r1, rfl, hr1, hjd1, hfg1⟩ := hq1
      rcases hr1 with rfl | ⟨rfl, he1⟩
      · dsimp only [Option.toList, List.cons_append, List.nil_append, Nat.beq, gI_sI, gI_sL, gI_sA, gI_sM, gL_sI, gL_sL, gL_sA, gL_sM, aI_sI, aI_sL, aI_sA, aI_sM, aL_sI, aL_sL, aL_sA, aL_sM]
        refine ⟨fun h2 => ?_, fun h2 => absurd h2 (by decide)⟩
        clear h2
        apply hB
        dsimp only [rgo, rfd, Bjudge, Nat.beq, rwp, rst, lv_args, rlk, rs1, rs2, rdl, rky, rct, rcs, rcd, rno, rsw, Value.category, List.filter, List.take, List.drop, List.reverse, List.reverseAux, List.cons_append, List.nil_append, Option.toList, Int.toNat, Int.reduceToNat, if_pos, if_neg, reduceIte, ↓reduceIte, Nat.reduceAdd, Nat.reduceEqDiff, Nat.reduceBEq, beq_self_eq_true, Bool.not_true, Bool.not_false, Bool.and_true, Bool.and_false, Bool.true_and, Bool.false_and, gI_sI, gI_sL, gI_sA, gI_sM, gL_sI, gL_sL, gL_sA, gL_sM, aI_sI, aI_sL, aI_sA, aI_sM, aL_sI, aL_sL, aL_sA, aL_sM, Bjudge_0, Bjudge_10, Bjudge_15, Bjudge_19, oi_m2, P_isGood]; try dsimp only
        refine ⟨rfl, ?_⟩
        apply hB
        dsimp only [rgo, rfd, Bjudge, Nat.beq, rwp, rst, lv_args, rlk, rs1, rs2, rdl, rky, rct, rcs, rcd, rno, rsw, Value.category, List.filter, List.take, List.drop, List.reverse, List.reverseAux, List.cons_append, List.nil_append, Option.toList, Int.toNat, Int.reduceToNat, if_pos, if_neg, reduceIte, ↓reduceIte, Nat.reduceAdd, Nat.reduceEqDiff, Nat.reduceBEq, beq_self_eq_true, Bool.not_true, Bool.not_false, Bool.and_true, Bool.and_false, Bool.true_and, Bool.false_and, gI_sI, gI_sL, gI_sA, gI_sM, gL_sI, gL_sL, gL_sA, gL_sM, aI_sI, aI_sL, aI_sA, aI_sM, aL_sI, aL_sL, aL_sA, aL_sM, Bjudge_0, Bjudge_10, Bjudge_15, Bjudge_19, oi_m2, P_isGood]; try dsimp only
        refine ⟨rfl, rfl, trivial, ?_⟩
        exact ⟨_, _, _, rfl, hjd1, hfg1, rfl⟩
      · dsimp only [Option.toList, List.cons_append, List.nil_append, Nat.beq, gI_sI, gI_sL, gI_sA, gI_sM, gL_sI, gL_sL, gL_sA, gL_sM, aI_sI, aI_sL, aI_sA, aI_sM, aL_sI, aL_sL, aL_sA, aL_sM]
        refine ⟨fun h3 => absurd h3 (by decide), fun h3 => ?_⟩
        clear h3
        apply hB
        dsimp only [rgo, rfd, Bjudge, Nat.beq, rwp, rst, lv_args, rlk, rs1, rs2, rdl, rky, rct, rcs, rcd, rno, rsw, Value.category, List.filter, List.take, List.drop, List.reverse, List.reverseAux, List.cons_append, List.nil_append, Option.toList, Int.toNat, Int.reduceToNat, if_pos, if_neg, reduceIte, ↓reduceIte, Nat.reduceAdd, Nat.reduceEqDiff, Nat.reduceBEq, beq_self_eq_true, Bool.not_true, Bool.not_false, Bool.and_true, Bool.and_false, Bool.true_and, Bool.false_and, gI_sI, gI_sL, gI_sA, gI_sM, gL_sI, gL_sL, gL_sA, gL_sM, aI_sI, aI_sL, aI_sA, aI_sM, aL_sI, aL_sL, aL_sA, aL_sM, Bjudge_0, Bjudge_10, Bjudge_15, Bjudge_19, oi_m2, P_isGood]; try dsimp only
        apply hB
        dsimp only [rgo, rfd, Bjudge, Nat.beq, rwp, rst, lv_args, rlk, rs1, rs2, rdl, rky, rct, rcs, rcd, rno, rsw, Value.category, List.filter, List.take, List.drop, List.reverse, List.reverseAux, List.cons_append, List.nil_append, Option.toList, Int.toNat, Int.reduceToNat, if_pos, if_neg, reduceIte, ↓reduceIte, Nat.reduceAdd, Nat.reduceEqDiff, Nat.reduceBEq, beq_self_eq_true, Bool.not_true, Bool.not_false, Bool.and_true, Bool.and_false, Bool.true_and, Bool.false_and, gI_sI, gI_sL, gI_sA, gI_sM, gL_sI, gL_sL, gL_sA, gL_sM, aI_sI, aI_sL, aI_sA, aI_sM, aL_sI, aL_sL, aL_sA, aL_sM, Bjudge_0, Bjudge_10, Bjudge_15, Bjudge_19, oi_m2, P_isGood]; try dsimp only
        refine ⟨rfl, rfl, trivial, ?_⟩
        exact ⟨_, _, _, rfl, hjd1, hfg1, rfl⟩
    next => exact hP.elim
theorem m_judge (l : Launch) : RMet l 8 126 P_judge Q_judge := by
  refine RMet.by Bjudge [(125, P_isGood, Q_isGood)] rojudge okBjudge (ctc (m_isGood l) (by decide) ct0) ?_ b_judge
  · intro As σ hP
    unfold P_judge at hP
    split at hP
    next => exact Nat.le_of_ble_eq_true rfl
    next => exact hP.elim
set_option maxRecDepth 100000 in
theorem e_judge (l : Launch) : RMetE l 8 126 P_judge Q_judge := by
  refine RMetE.by Bjudge [(125, P_isGood, Q_isGood)] rfl rfl rojudge okBjudge (ctEc (e_isGood l) (by decide) ctE0) ?_ b_judge
  · intro As σ hP
    unfold P_judge at hP
    split at hP
    next => exact Nat.le_of_ble_eq_true rfl
    next => exact hP.elim
def P_means : RP := fun As σ => match As with
  | [.int i] => IG σ
  | _ => False
def Q_means : RQ := fun As σ w τ => match As with
  | [.int i] => ∃ r : Int32, w = some (.int r) ∧ (τ = σ ∨ (JD τ ∧ Fg σ τ))
  | _ => False
set_option maxRecDepth 100000 in
set_option maxHeartbeats 4000000 in
theorem b_means : Bod Bmeans [(125, P_isGood, Q_isGood), (129, P_isToken, Q_isToken)] P_means Q_means := by
  · intro As σ hP G hB hW
    unfold P_means at hP
    split at hP
    next i => 
      unfold Q_means at hB
      dsimp only at hB
      have hcnt := hP.2.1
      apply hB
      dsimp only [rgo, rfd, Bmeans, Nat.beq, rwp, rst, lv_args, rlk, rs1, rs2, rdl, rky, rct, rcs, rcd, rno, rsw, Value.category, List.filter, List.take, List.drop, List.reverse, List.reverseAux, List.cons_append, List.nil_append, Option.toList, Int.toNat, Int.reduceToNat, if_pos, if_neg, reduceIte, ↓reduceIte, Nat.reduceAdd, Nat.reduceEqDiff, Nat.reduceBEq, beq_self_eq_true, Bool.not_true, Bool.not_false, Bool.and_true, Bool.and_false, Bool.true_and, Bool.false_and, gI_sI, gI_sL, gI_sA, gI_sM, gL_sI, gL_sL, gL_sA, gL_sM, aI_sI, aI_sL, aI_sA, aI_sM, aL_sI, aL_sL, aL_sA, aL_sM, Bmeans_0, Bmeans_8, Bmeans_18, Bmeans_20, Bmeans_27, Bmeans_36, Bmeans_38, oi_1, oi_m1, oi_m2, P_isGood, P_isToken]; try dsimp only
      refine ⟨rfl, (by decide), (⟨by lia, by lia⟩), fun w1 τ1 hq1 => ?_⟩
      obtain ⟨r1, rfl, hr1, e1⟩ := hq1
      obtain rfl := e1.symm
      rcases hr1 with rfl | ⟨rfl, hi1⟩
      · dsimp only [Option.toList, List.cons_append, List.nil_append, Nat.beq, gI_sI, gI_sL, gI_sA, gI_sM, gL_sI, gL_sL, gL_sA, gL_sM, aI_sI, aI_sL, aI_sA, aI_sM, aL_sI, aL_sL, aL_sA, aL_sM]
        refine ⟨fun h2 => ?_, fun h2 => absurd h2 (by decide)⟩
        clear h2
        apply hB
        dsimp only [rgo, rfd, Bmeans, Nat.beq, rwp, rst, lv_args, rlk, rs1, rs2, rdl, rky, rct, rcs, rcd, rno, rsw, Value.category, List.filter, List.take, List.drop, List.reverse, List.reverseAux, List.cons_append, List.nil_append, Option.toList, Int.toNat, Int.reduceToNat, if_pos, if_neg, reduceIte, ↓reduceIte, Nat.reduceAdd, Nat.reduceEqDiff, Nat.reduceBEq, beq_self_eq_true, Bool.not_true, Bool.not_false, Bool.and_true, Bool.and_false, Bool.true_and, Bool.false_and, gI_sI, gI_sL, gI_sA, gI_sM, gL_sI, gL_sL, gL_sA, gL_sM, aI_sI, aI_sL, aI_sA, aI_sM, aL_sI, aL_sL, aL_sA, aL_sM, Bmeans_0, Bmeans_8, Bmeans_18, Bmeans_20, Bmeans_27, Bmeans_36, Bmeans_38, oi_1, oi_m1, oi_m2, P_isGood, P_isToken]; try dsimp only
        refine ⟨trivial, ?_⟩
        exact ⟨_, rfl, Or.inl rfl⟩
      · dsimp only [Option.toList, List.cons_append, List.nil_append, Nat.beq, gI_sI, gI_sL, gI_sA, gI_sM, gL_sI, gL_sL, gL_sA, gL_sM, aI_sI, aI_sL, aI_sA, aI_sM, aL_sI, aL_sL, aL_sA, aL_sM]
        refine ⟨fun h3 => absurd h3 (by decide), fun h3 => ?_⟩
        clear h3
        apply hB
        dsimp only [rgo, rfd, Bmeans, Nat.beq, rwp, rst, lv_args, rlk, rs1, rs2, rdl, rky, rct, rcs, rcd, rno, rsw, Value.category, List.filter, List.take, List.drop, List.reverse, List.reverseAux, List.cons_append, List.nil_append, Option.toList, Int.toNat, Int.reduceToNat, if_pos, if_neg, reduceIte, ↓reduceIte, Nat.reduceAdd, Nat.reduceEqDiff, Nat.reduceBEq, beq_self_eq_true, Bool.not_true, Bool.not_false, Bool.and_true, Bool.and_false, Bool.true_and, Bool.false_and, gI_sI, gI_sL, gI_sA, gI_sM, gL_sI, gL_sL, gL_sA, gL_sM, aI_sI, aI_sL, aI_sA, aI_sM, aL_sI, aL_sL, aL_sA, aL_sM, Bmeans_0, Bmeans_8, Bmeans_18, Bmeans_20, Bmeans_27, Bmeans_36, Bmeans_38, oi_1, oi_m1, oi_m2, P_isGood, P_isToken]; try dsimp only
        refine ⟨rfl, rfl, (in_3 (by lia) (by lia)), fun h4 => ?_, fun h4 => ?_⟩
        · apply hB
          dsimp only [rgo, rfd, Bmeans, Nat.beq, rwp, rst, lv_args, rlk, rs1, rs2, rdl, rky, rct, rcs, rcd, rno, rsw, Value.category, List.filter, List.take, List.drop, List.reverse, List.reverseAux, List.cons_append, List.nil_append, Option.toList, Int.toNat, Int.reduceToNat, if_pos, if_neg, reduceIte, ↓reduceIte, Nat.reduceAdd, Nat.reduceEqDiff, Nat.reduceBEq, beq_self_eq_true, Bool.not_true, Bool.not_false, Bool.and_true, Bool.and_false, Bool.true_and, Bool.false_and, gI_sI, gI_sL, gI_sA, gI_sM, gL_sI, gL_sL, gL_sA, gL_sM, aI_sI, aI_sL, aI_sA, aI_sM, aL_sI, aL_sL, aL_sA, aL_sM, Bmeans_0, Bmeans_8, Bmeans_18, Bmeans_20, Bmeans_27, Bmeans_36, Bmeans_38, oi_1, oi_m1, oi_m2, P_isGood, P_isToken]; try dsimp only
          refine ⟨rfl, (by decide), (hP), fun w5 τ5 hq5 => ?_⟩
          obtain ⟨r5, rfl, hr5, hjd5, hfg5⟩ := hq5
          rcases hr5 with rfl | ⟨rfl, he5⟩
          · dsimp only [Option.toList, List.cons_append, List.nil_append, Nat.beq, gI_sI, gI_sL, gI_sA, gI_sM, gL_sI, gL_sL, gL_sA, gL_sM, aI_sI, aI_sL, aI_sA, aI_sM, aL_sI, aL_sL, aL_sA, aL_sM]
            refine ⟨fun h6 => ?_, fun h6 => absurd h6 (by decide)⟩
            clear h6
            apply hB
            dsimp only [rgo, rfd, Bmeans, Nat.beq, rwp, rst, lv_args, rlk, rs1, rs2, rdl, rky, rct, rcs, rcd, rno, rsw, Value.category, List.filter, List.take, List.drop, List.reverse, List.reverseAux, List.cons_append, List.nil_append, Option.toList, Int.toNat, Int.reduceToNat, if_pos, if_neg, reduceIte, ↓reduceIte, Nat.reduceAdd, Nat.reduceEqDiff, Nat.reduceBEq, beq_self_eq_true, Bool.not_true, Bool.not_false, Bool.and_true, Bool.and_false, Bool.true_and, Bool.false_and, gI_sI, gI_sL, gI_sA, gI_sM, gL_sI, gL_sL, gL_sA, gL_sM, aI_sI, aI_sL, aI_sA, aI_sM, aL_sI, aL_sL, aL_sA, aL_sM, Bmeans_0, Bmeans_8, Bmeans_18, Bmeans_20, Bmeans_27, Bmeans_36, Bmeans_38, oi_1, oi_m1, oi_m2, P_isGood, P_isToken]; try dsimp only
            apply hB
            dsimp only [rgo, rfd, Bmeans, Nat.beq, rwp, rst, lv_args, rlk, rs1, rs2, rdl, rky, rct, rcs, rcd, rno, rsw, Value.category, List.filter, List.take, List.drop, List.reverse, List.reverseAux, List.cons_append, List.nil_append, Option.toList, Int.toNat, Int.reduceToNat, if_pos, if_neg, reduceIte, ↓reduceIte, Nat.reduceAdd, Nat.reduceEqDiff, Nat.reduceBEq, beq_self_eq_true, Bool.not_true, Bool.not_false, Bool.and_true, Bool.and_false, Bool.true_and, Bool.false_and, gI_sI, gI_sL, gI_sA, gI_sM, gL_sI, gL_sL, gL_sA, gL_sM, aI_sI, aI_sL, aI_sA, aI_sM, aL_sI, aL_sL, aL_sA, aL_sM, Bmeans_0, Bmeans_8, Bmeans_18, Bmeans_20, Bmeans_27, Bmeans_36, Bmeans_38, oi_1, oi_m1, oi_m2, P_isGood, P_isToken]; try dsimp only
            refine ⟨trivial, ?_⟩
            exact ⟨_, rfl, Or.inr ⟨hjd5, hfg5⟩⟩
          · dsimp only [Option.toList, List.cons_append, List.nil_append, Nat.beq, gI_sI, gI_sL, gI_sA, gI_sM, gL_sI, gL_sL, gL_sA, gL_sM, aI_sI, aI_sL, aI_sA, aI_sM, aL_sI, aL_sL, aL_sA, aL_sM]
            refine ⟨fun h7 => absurd h7 (by decide), fun h7 => ?_⟩
            clear h7
            apply hB
            dsimp only [rgo, rfd, Bmeans, Nat.beq, rwp, rst, lv_args, rlk, rs1, rs2, rdl, rky, rct, rcs, rcd, rno, rsw, Value.category, List.filter, List.take, List.drop, List.reverse, List.reverseAux, List.cons_append, List.nil_append, Option.toList, Int.toNat, Int.reduceToNat, if_pos, if_neg, reduceIte, ↓reduceIte, Nat.reduceAdd, Nat.reduceEqDiff, Nat.reduceBEq, beq_self_eq_true, Bool.not_true, Bool.not_false, Bool.and_true, Bool.and_false, Bool.true_and, Bool.false_and, gI_sI, gI_sL, gI_sA, gI_sM, gL_sI, gL_sL, gL_sA, gL_sM, aI_sI, aI_sL, aI_sA, aI_sM, aL_sI, aL_sL, aL_sA, aL_sM, Bmeans_0, Bmeans_8, Bmeans_18, Bmeans_20, Bmeans_27, Bmeans_36, Bmeans_38, oi_1, oi_m1, oi_m2, P_isGood, P_isToken]; try dsimp only
            refine ⟨rfl, rfl, (in_80 (by lia) (by lia)), ?_⟩
            apply hB
            dsimp only [rgo, rfd, Bmeans, Nat.beq, rwp, rst, lv_args, rlk, rs1, rs2, rdl, rky, rct, rcs, rcd, rno, rsw, Value.category, List.filter, List.take, List.drop, List.reverse, List.reverseAux, List.cons_append, List.nil_append, Option.toList, Int.toNat, Int.reduceToNat, if_pos, if_neg, reduceIte, ↓reduceIte, Nat.reduceAdd, Nat.reduceEqDiff, Nat.reduceBEq, beq_self_eq_true, Bool.not_true, Bool.not_false, Bool.and_true, Bool.and_false, Bool.true_and, Bool.false_and, gI_sI, gI_sL, gI_sA, gI_sM, gL_sI, gL_sL, gL_sA, gL_sM, aI_sI, aI_sL, aI_sA, aI_sM, aL_sI, aL_sL, aL_sA, aL_sM, Bmeans_0, Bmeans_8, Bmeans_18, Bmeans_20, Bmeans_27, Bmeans_36, Bmeans_38, oi_1, oi_m1, oi_m2, P_isGood, P_isToken]; try dsimp only
            refine ⟨trivial, ?_⟩
            exact ⟨_, rfl, Or.inr ⟨hjd5, hfg5⟩⟩
        · apply hB
          dsimp only [rgo, rfd, Bmeans, Nat.beq, rwp, rst, lv_args, rlk, rs1, rs2, rdl, rky, rct, rcs, rcd, rno, rsw, Value.category, List.filter, List.take, List.drop, List.reverse, List.reverseAux, List.cons_append, List.nil_append, Option.toList, Int.toNat, Int.reduceToNat, if_pos, if_neg, reduceIte, ↓reduceIte, Nat.reduceAdd, Nat.reduceEqDiff, Nat.reduceBEq, beq_self_eq_true, Bool.not_true, Bool.not_false, Bool.and_true, Bool.and_false, Bool.true_and, Bool.false_and, gI_sI, gI_sL, gI_sA, gI_sM, gL_sI, gL_sL, gL_sA, gL_sM, aI_sI, aI_sL, aI_sA, aI_sM, aL_sI, aL_sL, aL_sA, aL_sM, Bmeans_0, Bmeans_8, Bmeans_18, Bmeans_20, Bmeans_27, Bmeans_36, Bmeans_38, oi_1, oi_m1, oi_m2, P_isGood, P_isToken]; try dsimp only
          refine ⟨trivial, ?_⟩
          exact ⟨_, rfl, Or.inl rfl⟩
    next => exact hP.elim
theorem m_means (l : Launch) : RMet l 8 133 P_means Q_means := by
  refine RMet.by Bmeans [(125, P_isGood, Q_isGood), (129, P_isToken, Q_isToken)] romeans okBmeans (ctc (m_isGood l) (by decide) (ctc (m_isToken l) (by decide) ct0)) ?_ b_means
  · intro As σ hP
    unfold P_means at hP
    split at hP
    next => exact Nat.le_of_ble_eq_true rfl
    next => exact hP.elim
set_option maxRecDepth 100000 in
theorem e_means (l : Launch) : RMetE l 8 133 P_means Q_means := by
  refine RMetE.by Bmeans [(125, P_isGood, Q_isGood), (129, P_isToken, Q_isToken)] rfl rfl romeans okBmeans (ctEc (e_isGood l) (by decide) (ctEc (e_isToken l) (by decide) ctE0)) ?_ b_means
  · intro As σ hP
    unfold P_means at hP
    split at hP
    next => exact Nat.le_of_ble_eq_true rfl
    next => exact hP.elim
def P_expAt : RP := fun As σ => match As with
  | [.int i, .int k] => 0 ≤ (gI σ 74) ∧ (gI σ 74) ≤ 2000
  | _ => False
def Q_expAt : RQ := fun As σ w τ => match As with
  | [.int i, .int k] => ∃ r : Int32, w = some (.int r) ∧ (r = -2 ∨ (0 ≤ r ∧ r < 2000)) ∧ τ = σ
  | _ => False
set_option maxRecDepth 100000 in
set_option maxHeartbeats 4000000 in
theorem b_expAt : Bod BexpAt [] P_expAt Q_expAt := by
  · intro As σ hP G hB hW
    unfold P_expAt at hP
    split at hP
    next i k => 
      unfold Q_expAt at hB
      dsimp only at hB
      have loop : ∀ n : Nat, ∀ f x : Int32, (4000 - x.toInt).toNat = n → (0 ≤ x ∧ x ≤ 2000) → (f = -2 ∨ (0 ≤ f ∧ f < 2000)) → G 6 [(0, .ref 1000), (1, .int i), (2, .int k), (3, .int f), (4, .int x)] [] σ := by
        intro n
        induction n using Nat.strongRecOn with
        | ind n loop =>
          intro f x hk hx hf
          apply hB
          dsimp only [rgo, rfd, BexpAt, Nat.beq, rwp, rst, lv_args, rlk, rs1, rs2, rdl, rky, rct, rcs, rcd, rno, rsw, Value.category, List.filter, List.take, List.drop, List.reverse, List.reverseAux, List.cons_append, List.nil_append, Option.toList, Int.toNat, Int.reduceToNat, if_pos, if_neg, reduceIte, ↓reduceIte, Nat.reduceAdd, Nat.reduceEqDiff, Nat.reduceBEq, beq_self_eq_true, Bool.not_true, Bool.not_false, Bool.and_true, Bool.and_false, Bool.true_and, Bool.false_and, gI_sI, gI_sL, gI_sA, gI_sM, gL_sI, gL_sL, gL_sA, gL_sM, aI_sI, aI_sL, aI_sA, aI_sM, aL_sI, aL_sL, aL_sA, aL_sM, BexpAt_0, BexpAt_6, BexpAt_15, BexpAt_26, BexpAt_37, BexpAt_40, BexpAt_46, oi_0, oi_1, oi_m2]; try dsimp only
          refine ⟨rfl, fun h1 => ?_, fun h1 => ?_⟩
          · apply hB
            dsimp only [rgo, rfd, BexpAt, Nat.beq, rwp, rst, lv_args, rlk, rs1, rs2, rdl, rky, rct, rcs, rcd, rno, rsw, Value.category, List.filter, List.take, List.drop, List.reverse, List.reverseAux, List.cons_append, List.nil_append, Option.toList, Int.toNat, Int.reduceToNat, if_pos, if_neg, reduceIte, ↓reduceIte, Nat.reduceAdd, Nat.reduceEqDiff, Nat.reduceBEq, beq_self_eq_true, Bool.not_true, Bool.not_false, Bool.and_true, Bool.and_false, Bool.true_and, Bool.false_and, gI_sI, gI_sL, gI_sA, gI_sM, gL_sI, gL_sL, gL_sA, gL_sM, aI_sI, aI_sL, aI_sA, aI_sM, aL_sI, aL_sL, aL_sA, aL_sM, BexpAt_0, BexpAt_6, BexpAt_15, BexpAt_26, BexpAt_37, BexpAt_40, BexpAt_46, oi_0, oi_1, oi_m2]; try dsimp only
            refine ⟨trivial, ?_⟩
            exact ⟨_, rfl, hf, rfl⟩
          · apply hB
            dsimp only [rgo, rfd, BexpAt, Nat.beq, rwp, rst, lv_args, rlk, rs1, rs2, rdl, rky, rct, rcs, rcd, rno, rsw, Value.category, List.filter, List.take, List.drop, List.reverse, List.reverseAux, List.cons_append, List.nil_append, Option.toList, Int.toNat, Int.reduceToNat, if_pos, if_neg, reduceIte, ↓reduceIte, Nat.reduceAdd, Nat.reduceEqDiff, Nat.reduceBEq, beq_self_eq_true, Bool.not_true, Bool.not_false, Bool.and_true, Bool.and_false, Bool.true_and, Bool.false_and, gI_sI, gI_sL, gI_sA, gI_sM, gL_sI, gL_sL, gL_sA, gL_sM, aI_sI, aI_sL, aI_sA, aI_sM, aL_sI, aL_sL, aL_sA, aL_sM, BexpAt_0, BexpAt_6, BexpAt_15, BexpAt_26, BexpAt_37, BexpAt_40, BexpAt_46, oi_0, oi_1, oi_m2]; try dsimp only
            refine ⟨rfl, rfl, (in_75 (by lia) (by lia)), fun h2 => ?_, fun h2 => ?_⟩
            · apply hB
              dsimp only [rgo, rfd, BexpAt, Nat.beq, rwp, rst, lv_args, rlk, rs1, rs2, rdl, rky, rct, rcs, rcd, rno, rsw, Value.category, List.filter, List.take, List.drop, List.reverse, List.reverseAux, List.cons_append, List.nil_append, Option.toList, Int.toNat, Int.reduceToNat, if_pos, if_neg, reduceIte, ↓reduceIte, Nat.reduceAdd, Nat.reduceEqDiff, Nat.reduceBEq, beq_self_eq_true, Bool.not_true, Bool.not_false, Bool.and_true, Bool.and_false, Bool.true_and, Bool.false_and, gI_sI, gI_sL, gI_sA, gI_sM, gL_sI, gL_sL, gL_sA, gL_sM, aI_sI, aI_sL, aI_sA, aI_sM, aL_sI, aL_sL, aL_sA, aL_sM, BexpAt_0, BexpAt_6, BexpAt_15, BexpAt_26, BexpAt_37, BexpAt_40, BexpAt_46, oi_0, oi_1, oi_m2]; try dsimp only
              refine hW 6 [(0, .ref 1000), (1, .int i), (2, .int k), (3, .int f), (4, .int (x + 1))] _ _ _ (by simp [rdl, rky]) (loop _ ?_ f (x + 1) rfl ⟨by lia, by lia⟩ hf)
              exact mlt4 hk (by lia) (by lia)
            · apply hB
              dsimp only [rgo, rfd, BexpAt, Nat.beq, rwp, rst, lv_args, rlk, rs1, rs2, rdl, rky, rct, rcs, rcd, rno, rsw, Value.category, List.filter, List.take, List.drop, List.reverse, List.reverseAux, List.cons_append, List.nil_append, Option.toList, Int.toNat, Int.reduceToNat, if_pos, if_neg, reduceIte, ↓reduceIte, Nat.reduceAdd, Nat.reduceEqDiff, Nat.reduceBEq, beq_self_eq_true, Bool.not_true, Bool.not_false, Bool.and_true, Bool.and_false, Bool.true_and, Bool.false_and, gI_sI, gI_sL, gI_sA, gI_sM, gL_sI, gL_sL, gL_sA, gL_sM, aI_sI, aI_sL, aI_sA, aI_sM, aL_sI, aL_sL, aL_sA, aL_sM, BexpAt_0, BexpAt_6, BexpAt_15, BexpAt_26, BexpAt_37, BexpAt_40, BexpAt_46, oi_0, oi_1, oi_m2]; try dsimp only
              refine ⟨rfl, rfl, (in_76 (by lia) (by lia)), fun h3 => ?_, fun h3 => ?_⟩
              · apply hB
                dsimp only [rgo, rfd, BexpAt, Nat.beq, rwp, rst, lv_args, rlk, rs1, rs2, rdl, rky, rct, rcs, rcd, rno, rsw, Value.category, List.filter, List.take, List.drop, List.reverse, List.reverseAux, List.cons_append, List.nil_append, Option.toList, Int.toNat, Int.reduceToNat, if_pos, if_neg, reduceIte, ↓reduceIte, Nat.reduceAdd, Nat.reduceEqDiff, Nat.reduceBEq, beq_self_eq_true, Bool.not_true, Bool.not_false, Bool.and_true, Bool.and_false, Bool.true_and, Bool.false_and, gI_sI, gI_sL, gI_sA, gI_sM, gL_sI, gL_sL, gL_sA, gL_sM, aI_sI, aI_sL, aI_sA, aI_sM, aL_sI, aL_sL, aL_sA, aL_sM, BexpAt_0, BexpAt_6, BexpAt_15, BexpAt_26, BexpAt_37, BexpAt_40, BexpAt_46, oi_0, oi_1, oi_m2]; try dsimp only
                refine hW 6 [(0, .ref 1000), (1, .int i), (2, .int k), (3, .int f), (4, .int (x + 1))] _ _ _ (by simp [rdl, rky]) (loop _ ?_ f (x + 1) rfl ⟨by lia, by lia⟩ hf)
                exact mlt4 hk (by lia) (by lia)
              · apply hB
                dsimp only [rgo, rfd, BexpAt, Nat.beq, rwp, rst, lv_args, rlk, rs1, rs2, rdl, rky, rct, rcs, rcd, rno, rsw, Value.category, List.filter, List.take, List.drop, List.reverse, List.reverseAux, List.cons_append, List.nil_append, Option.toList, Int.toNat, Int.reduceToNat, if_pos, if_neg, reduceIte, ↓reduceIte, Nat.reduceAdd, Nat.reduceEqDiff, Nat.reduceBEq, beq_self_eq_true, Bool.not_true, Bool.not_false, Bool.and_true, Bool.and_false, Bool.true_and, Bool.false_and, gI_sI, gI_sL, gI_sA, gI_sM, gL_sI, gL_sL, gL_sA, gL_sM, aI_sI, aI_sL, aI_sA, aI_sM, aL_sI, aL_sL, aL_sA, aL_sM, BexpAt_0, BexpAt_6, BexpAt_15, BexpAt_26, BexpAt_37, BexpAt_40, BexpAt_46, oi_0, oi_1, oi_m2]; try dsimp only
                apply hB
                dsimp only [rgo, rfd, BexpAt, Nat.beq, rwp, rst, lv_args, rlk, rs1, rs2, rdl, rky, rct, rcs, rcd, rno, rsw, Value.category, List.filter, List.take, List.drop, List.reverse, List.reverseAux, List.cons_append, List.nil_append, Option.toList, Int.toNat, Int.reduceToNat, if_pos, if_neg, reduceIte, ↓reduceIte, Nat.reduceAdd, Nat.reduceEqDiff, Nat.reduceBEq, beq_self_eq_true, Bool.not_true, Bool.not_false, Bool.and_true, Bool.and_false, Bool.true_and, Bool.false_and, gI_sI, gI_sL, gI_sA, gI_sM, gL_sI, gL_sL, gL_sA, gL_sM, aI_sI, aI_sL, aI_sA, aI_sM, aL_sI, aL_sL, aL_sA, aL_sM, BexpAt_0, BexpAt_6, BexpAt_15, BexpAt_26, BexpAt_37, BexpAt_40, BexpAt_46, oi_0, oi_1, oi_m2]; try dsimp only
                refine hW 6 [(0, .ref 1000), (1, .int i), (2, .int k), (3, .int x), (4, .int (x + 1))] _ _ _ (by simp [rdl, rky]) (loop _ ?_ x (x + 1) rfl ⟨by lia, by lia⟩ (Or.inr ⟨by lia, by lia⟩))
                exact mlt4 hk (by lia) (by lia)
      apply hB
      dsimp only [rgo, rfd, BexpAt, Nat.beq, rwp, rst, lv_args, rlk, rs1, rs2, rdl, rky, rct, rcs, rcd, rno, rsw, Value.category, List.filter, List.take, List.drop, List.reverse, List.reverseAux, List.cons_append, List.nil_append, Option.toList, Int.toNat, Int.reduceToNat, if_pos, if_neg, reduceIte, ↓reduceIte, Nat.reduceAdd, Nat.reduceEqDiff, Nat.reduceBEq, beq_self_eq_true, Bool.not_true, Bool.not_false, Bool.and_true, Bool.and_false, Bool.true_and, Bool.false_and, gI_sI, gI_sL, gI_sA, gI_sM, gL_sI, gL_sL, gL_sA, gL_sM, aI_sI, aI_sL, aI_sA, aI_sM, aL_sI, aL_sL, aL_sA, aL_sM, BexpAt_0, BexpAt_6, BexpAt_15, BexpAt_26, BexpAt_37, BexpAt_40, BexpAt_46, oi_0, oi_1, oi_m2]; try dsimp only
      exact hW 6 [(0, .ref 1000), (1, .int i), (2, .int k), (3, .int (-2)), (4, .int 0)] _ _ _ (by simp [rdl, rky]) (loop _ (-2) 0 rfl ⟨by decide, by decide⟩ (Or.inl rfl))
    next => exact hP.elim
theorem m_expAt (l : Launch) : RMet l 1 134 P_expAt Q_expAt := by
  refine RMet.by BexpAt [] roexpAt okBexpAt ct0 ?_ b_expAt
  · intro As σ hP
    unfold P_expAt at hP
    split at hP
    next => exact Nat.le_of_ble_eq_true rfl
    next => exact hP.elim
set_option maxRecDepth 100000 in
theorem e_expAt (l : Launch) : RMetE l 1 134 P_expAt Q_expAt := by
  refine RMetE.by BexpAt [] rfl rfl roexpAt okBexpAt ctE0 ?_ b_expAt
  · intro As σ hP
    unfold P_expAt at hP
    split at hP
    next => exact Nat.le_of_ble_eq_true rfl
    next => exact hP.elim
def P_type : RP := fun As σ => match As with
  | [.int i, .int k] => IG σ
  | _ => False
def Q_type : RQ := fun As σ w τ => match As with
  | [.int i, .int k] => ∃ r : Int32, w = some (.int r) ∧ JD τ ∧ Fg σ τ
  | _ => False
set_option maxRecDepth 100000 in
set_option maxHeartbeats 4000000 in
theorem b_type : Bod Btype [(134, P_expAt, Q_expAt), (125, P_isGood, Q_isGood)] P_type Q_type := by
  · intro As σ hP G hB hW
    unfold P_type at hP
    split at hP
    next i k => 
      unfold Q_type at hB
      dsimp only at hB
      have hcnt := hP.2.1
      apply hB
      dsimp only [rgo, rfd, Btype, Nat.beq, rwp, rst, lv_args, rlk, rs1, rs2, rdl, rky, rct, rcs, rcd, rno, rsw, Value.category, List.filter, List.take, List.drop, List.reverse, List.reverseAux, List.cons_append, List.nil_append, Option.toList, Int.toNat, Int.reduceToNat, if_pos, if_neg, reduceIte, ↓reduceIte, Nat.reduceAdd, Nat.reduceEqDiff, Nat.reduceBEq, beq_self_eq_true, Bool.not_true, Bool.not_false, Bool.and_true, Bool.and_false, Bool.true_and, Bool.false_and, gI_sI, gI_sL, gI_sA, gI_sM, gL_sI, gL_sL, gL_sA, gL_sM, aI_sI, aI_sL, aI_sA, aI_sM, aL_sI, aL_sL, aL_sA, aL_sM, Btype_0, Btype_7, Btype_10, Btype_21, Btype_25, Btype_31, oi_m1, oi_m2, P_expAt, P_isGood]; try dsimp only
      refine ⟨rfl, (by decide), (hP), fun w1 τ1 hq1 => ?_⟩
      obtain ⟨r1, rfl, hr1, hjd1, hfg1⟩ := hq1
      rcases hr1 with rfl | ⟨rfl, he1⟩
      · dsimp only [Option.toList, List.cons_append, List.nil_append, Nat.beq, gI_sI, gI_sL, gI_sA, gI_sM, gL_sI, gL_sL, gL_sA, gL_sM, aI_sI, aI_sL, aI_sA, aI_sM, aL_sI, aL_sL, aL_sA, aL_sM]
        refine ⟨fun h2 => absurd h2 (by decide), fun h2 => ?_⟩
        clear h2
        apply hB
        dsimp only [rgo, rfd, Btype, Nat.beq, rwp, rst, lv_args, rlk, rs1, rs2, rdl, rky, rct, rcs, rcd, rno, rsw, Value.category, List.filter, List.take, List.drop, List.reverse, List.reverseAux, List.cons_append, List.nil_append, Option.toList, Int.toNat, Int.reduceToNat, if_pos, if_neg, reduceIte, ↓reduceIte, Nat.reduceAdd, Nat.reduceEqDiff, Nat.reduceBEq, beq_self_eq_true, Bool.not_true, Bool.not_false, Bool.and_true, Bool.and_false, Bool.true_and, Bool.false_and, gI_sI, gI_sL, gI_sA, gI_sM, gL_sI, gL_sL, gL_sA, gL_sM, aI_sI, aI_sL, aI_sA, aI_sM, aL_sI, aL_sL, aL_sA, aL_sM, Btype_0, Btype_7, Btype_10, Btype_21, Btype_25, Btype_31, oi_m1, oi_m2, P_expAt, P_isGood]; try dsimp only
        refine ⟨trivial, ?_⟩
        exact ⟨_, rfl, hjd1, hfg1⟩
      · dsimp only [Option.toList, List.cons_append, List.nil_append, Nat.beq, gI_sI, gI_sL, gI_sA, gI_sM, gL_sI, gL_sL, gL_sA, gL_sM, aI_sI, aI_sL, aI_sA, aI_sM, aL_sI, aL_sL, aL_sA, aL_sM]
        refine ⟨fun h3 => ?_, fun h3 => absurd h3 (by decide)⟩
        clear h3
        apply hB
        dsimp only [rgo, rfd, Btype, Nat.beq, rwp, rst, lv_args, rlk, rs1, rs2, rdl, rky, rct, rcs, rcd, rno, rsw, Value.category, List.filter, List.take, List.drop, List.reverse, List.reverseAux, List.cons_append, List.nil_append, Option.toList, Int.toNat, Int.reduceToNat, if_pos, if_neg, reduceIte, ↓reduceIte, Nat.reduceAdd, Nat.reduceEqDiff, Nat.reduceBEq, beq_self_eq_true, Bool.not_true, Bool.not_false, Bool.and_true, Bool.and_false, Bool.true_and, Bool.false_and, gI_sI, gI_sL, gI_sA, gI_sM, gL_sI, gL_sL, gL_sA, gL_sM, aI_sI, aI_sL, aI_sA, aI_sM, aL_sI, aL_sL, aL_sA, aL_sM, Btype_0, Btype_7, Btype_10, Btype_21, Btype_25, Btype_31, oi_m1, oi_m2, P_expAt, P_isGood]; try dsimp only
        refine ⟨rfl, (by decide), (hjd1.2.1.2.2), fun w4 τ4 hq4 => ?_⟩
        obtain ⟨r4, rfl, hr4, e4⟩ := hq4
        obtain rfl := e4.symm
        dsimp only [Option.toList, List.cons_append, List.nil_append, Nat.beq, gI_sI, gI_sL, gI_sA, gI_sM, gL_sI, gL_sL, gL_sA, gL_sM, aI_sI, aI_sL, aI_sA, aI_sM, aL_sI, aL_sL, aL_sA, aL_sM]
        refine ⟨fun h5 => ?_, fun h5 => ?_⟩
        · apply hB
          dsimp only [rgo, rfd, Btype, Nat.beq, rwp, rst, lv_args, rlk, rs1, rs2, rdl, rky, rct, rcs, rcd, rno, rsw, Value.category, List.filter, List.take, List.drop, List.reverse, List.reverseAux, List.cons_append, List.nil_append, Option.toList, Int.toNat, Int.reduceToNat, if_pos, if_neg, reduceIte, ↓reduceIte, Nat.reduceAdd, Nat.reduceEqDiff, Nat.reduceBEq, beq_self_eq_true, Bool.not_true, Bool.not_false, Bool.and_true, Bool.and_false, Bool.true_and, Bool.false_and, gI_sI, gI_sL, gI_sA, gI_sM, gL_sI, gL_sL, gL_sA, gL_sM, aI_sI, aI_sL, aI_sA, aI_sM, aL_sI, aL_sL, aL_sA, aL_sM, Btype_0, Btype_7, Btype_10, Btype_21, Btype_25, Btype_31, oi_m1, oi_m2, P_expAt, P_isGood]; try dsimp only
          refine ⟨rfl, rfl, (in_77 (by lia) (by lia)), ?_⟩
          apply hB
          dsimp only [rgo, rfd, Btype, Nat.beq, rwp, rst, lv_args, rlk, rs1, rs2, rdl, rky, rct, rcs, rcd, rno, rsw, Value.category, List.filter, List.take, List.drop, List.reverse, List.reverseAux, List.cons_append, List.nil_append, Option.toList, Int.toNat, Int.reduceToNat, if_pos, if_neg, reduceIte, ↓reduceIte, Nat.reduceAdd, Nat.reduceEqDiff, Nat.reduceBEq, beq_self_eq_true, Bool.not_true, Bool.not_false, Bool.and_true, Bool.and_false, Bool.true_and, Bool.false_and, gI_sI, gI_sL, gI_sA, gI_sM, gL_sI, gL_sL, gL_sA, gL_sM, aI_sI, aI_sL, aI_sA, aI_sM, aL_sI, aL_sL, aL_sA, aL_sM, Btype_0, Btype_7, Btype_10, Btype_21, Btype_25, Btype_31, oi_m1, oi_m2, P_expAt, P_isGood]; try dsimp only
          refine ⟨trivial, ?_⟩
          exact ⟨_, rfl, hjd1, hfg1⟩
        · apply hB
          dsimp only [rgo, rfd, Btype, Nat.beq, rwp, rst, lv_args, rlk, rs1, rs2, rdl, rky, rct, rcs, rcd, rno, rsw, Value.category, List.filter, List.take, List.drop, List.reverse, List.reverseAux, List.cons_append, List.nil_append, Option.toList, Int.toNat, Int.reduceToNat, if_pos, if_neg, reduceIte, ↓reduceIte, Nat.reduceAdd, Nat.reduceEqDiff, Nat.reduceBEq, beq_self_eq_true, Bool.not_true, Bool.not_false, Bool.and_true, Bool.and_false, Bool.true_and, Bool.false_and, gI_sI, gI_sL, gI_sA, gI_sM, gL_sI, gL_sL, gL_sA, gL_sM, aI_sI, aI_sL, aI_sA, aI_sM, aL_sI, aL_sL, aL_sA, aL_sM, Btype_0, Btype_7, Btype_10, Btype_21, Btype_25, Btype_31, oi_m1, oi_m2, P_expAt, P_isGood]; try dsimp only
          apply hB
          dsimp only [rgo, rfd, Btype, Nat.beq, rwp, rst, lv_args, rlk, rs1, rs2, rdl, rky, rct, rcs, rcd, rno, rsw, Value.category, List.filter, List.take, List.drop, List.reverse, List.reverseAux, List.cons_append, List.nil_append, Option.toList, Int.toNat, Int.reduceToNat, if_pos, if_neg, reduceIte, ↓reduceIte, Nat.reduceAdd, Nat.reduceEqDiff, Nat.reduceBEq, beq_self_eq_true, Bool.not_true, Bool.not_false, Bool.and_true, Bool.and_false, Bool.true_and, Bool.false_and, gI_sI, gI_sL, gI_sA, gI_sM, gL_sI, gL_sL, gL_sA, gL_sM, aI_sI, aI_sL, aI_sA, aI_sM, aL_sI, aL_sL, aL_sA, aL_sM, Btype_0, Btype_7, Btype_10, Btype_21, Btype_25, Btype_31, oi_m1, oi_m2, P_expAt, P_isGood]; try dsimp only
          refine ⟨trivial, ?_⟩
          exact ⟨_, rfl, hjd1, hfg1⟩
    next => exact hP.elim
theorem m_type (l : Launch) : RMet l 8 135 P_type Q_type := by
  refine RMet.by Btype [(134, P_expAt, Q_expAt), (125, P_isGood, Q_isGood)] rotype okBtype (ctc (m_expAt l) (by decide) (ctc (m_isGood l) (by decide) ct0)) ?_ b_type
  · intro As σ hP
    unfold P_type at hP
    split at hP
    next => exact Nat.le_of_ble_eq_true rfl
    next => exact hP.elim
set_option maxRecDepth 100000 in
theorem e_type (l : Launch) : RMetE l 8 135 P_type Q_type := by
  refine RMetE.by Btype [(134, P_expAt, Q_expAt), (125, P_isGood, Q_isGood)] rfl rfl rotype okBtype (ctEc (e_expAt l) (by decide) (ctEc (e_isGood l) (by decide) ctE0)) ?_ b_type
  · intro As σ hP
    unfold P_type at hP
    split at hP
    next => exact Nat.le_of_ble_eq_true rfl
    next => exact hP.elim
def P_constant : RP := fun As σ => match As with
  | [.int i, .int k] => IG σ
  | _ => False
def Q_constant : RQ := fun As σ w τ => match As with
  | [.int i, .int k] => ∃ r : Int64, w = some (.long r) ∧ JD τ ∧ Fg σ τ
  | _ => False
set_option maxRecDepth 100000 in
set_option maxHeartbeats 4000000 in
theorem b_constant : Bod Bconstant [(134, P_expAt, Q_expAt), (125, P_isGood, Q_isGood)] P_constant Q_constant := by
  · intro As σ hP G hB hW
    unfold P_constant at hP
    split at hP
    next i k => 
      unfold Q_constant at hB
      dsimp only at hB
      have hcnt := hP.2.1
      apply hB
      dsimp only [rgo, rfd, Bconstant, Nat.beq, rwp, rst, lv_args, rlk, rs1, rs2, rdl, rky, rct, rcs, rcd, rno, rsw, Value.category, List.filter, List.take, List.drop, List.reverse, List.reverseAux, List.cons_append, List.nil_append, Option.toList, Int.toNat, Int.reduceToNat, if_pos, if_neg, reduceIte, ↓reduceIte, Nat.reduceAdd, Nat.reduceEqDiff, Nat.reduceBEq, beq_self_eq_true, Bool.not_true, Bool.not_false, Bool.and_true, Bool.and_false, Bool.true_and, Bool.false_and, gI_sI, gI_sL, gI_sA, gI_sM, gL_sI, gL_sL, gL_sA, gL_sM, aI_sI, aI_sL, aI_sA, aI_sM, aL_sI, aL_sL, aL_sA, aL_sM, Bconstant_0, Bconstant_7, Bconstant_11, Bconstant_22, Bconstant_31, Bconstant_37, Bconstant_43, P_expAt, P_isGood]; try dsimp only
      refine ⟨rfl, (by decide), (hP), fun w1 τ1 hq1 => ?_⟩
      obtain ⟨r1, rfl, hr1, hjd1, hfg1⟩ := hq1
      rcases hr1 with rfl | ⟨rfl, he1⟩
      · dsimp only [Option.toList, List.cons_append, List.nil_append, Nat.beq, gI_sI, gI_sL, gI_sA, gI_sM, gL_sI, gL_sL, gL_sA, gL_sM, aI_sI, aI_sL, aI_sA, aI_sM, aL_sI, aL_sL, aL_sA, aL_sM]
        refine ⟨fun h2 => absurd h2 (by decide), fun h2 => ?_⟩
        clear h2
        apply hB
        dsimp only [rgo, rfd, Bconstant, Nat.beq, rwp, rst, lv_args, rlk, rs1, rs2, rdl, rky, rct, rcs, rcd, rno, rsw, Value.category, List.filter, List.take, List.drop, List.reverse, List.reverseAux, List.cons_append, List.nil_append, Option.toList, Int.toNat, Int.reduceToNat, if_pos, if_neg, reduceIte, ↓reduceIte, Nat.reduceAdd, Nat.reduceEqDiff, Nat.reduceBEq, beq_self_eq_true, Bool.not_true, Bool.not_false, Bool.and_true, Bool.and_false, Bool.true_and, Bool.false_and, gI_sI, gI_sL, gI_sA, gI_sM, gL_sI, gL_sL, gL_sA, gL_sM, aI_sI, aI_sL, aI_sA, aI_sM, aL_sI, aL_sL, aL_sA, aL_sM, Bconstant_0, Bconstant_7, Bconstant_11, Bconstant_22, Bconstant_31, Bconstant_37, Bconstant_43, P_expAt, P_isGood]; try dsimp only
        exact ⟨_, rfl, hjd1, hfg1⟩
      · dsimp only [Option.toList, List.cons_append, List.nil_append, Nat.beq, gI_sI, gI_sL, gI_sA, gI_sM, gL_sI, gL_sL, gL_sA, gL_sM, aI_sI, aI_sL, aI_sA, aI_sM, aL_sI, aL_sL, aL_sA, aL_sM]
        refine ⟨fun h3 => ?_, fun h3 => absurd h3 (by decide)⟩
        clear h3
        apply hB
        dsimp only [rgo, rfd, Bconstant, Nat.beq, rwp, rst, lv_args, rlk, rs1, rs2, rdl, rky, rct, rcs, rcd, rno, rsw, Value.category, List.filter, List.take, List.drop, List.reverse, List.reverseAux, List.cons_append, List.nil_append, Option.toList, Int.toNat, Int.reduceToNat, if_pos, if_neg, reduceIte, ↓reduceIte, Nat.reduceAdd, Nat.reduceEqDiff, Nat.reduceBEq, beq_self_eq_true, Bool.not_true, Bool.not_false, Bool.and_true, Bool.and_false, Bool.true_and, Bool.false_and, gI_sI, gI_sL, gI_sA, gI_sM, gL_sI, gL_sL, gL_sA, gL_sM, aI_sI, aI_sL, aI_sA, aI_sM, aL_sI, aL_sL, aL_sA, aL_sM, Bconstant_0, Bconstant_7, Bconstant_11, Bconstant_22, Bconstant_31, Bconstant_37, Bconstant_43, P_expAt, P_isGood]; try dsimp only
        refine ⟨rfl, (by decide), (hjd1.2.1.2.2), fun w4 τ4 hq4 => ?_⟩
        obtain ⟨r4, rfl, hr4, e4⟩ := hq4
        obtain rfl := e4.symm
        dsimp only [Option.toList, List.cons_append, List.nil_append, Nat.beq, gI_sI, gI_sL, gI_sA, gI_sM, gL_sI, gL_sL, gL_sA, gL_sM, aI_sI, aI_sL, aI_sA, aI_sM, aL_sI, aL_sL, aL_sA, aL_sM]
        refine ⟨fun h5 => ?_, fun h5 => ?_⟩
        · apply hB
          dsimp only [rgo, rfd, Bconstant, Nat.beq, rwp, rst, lv_args, rlk, rs1, rs2, rdl, rky, rct, rcs, rcd, rno, rsw, Value.category, List.filter, List.take, List.drop, List.reverse, List.reverseAux, List.cons_append, List.nil_append, Option.toList, Int.toNat, Int.reduceToNat, if_pos, if_neg, reduceIte, ↓reduceIte, Nat.reduceAdd, Nat.reduceEqDiff, Nat.reduceBEq, beq_self_eq_true, Bool.not_true, Bool.not_false, Bool.and_true, Bool.and_false, Bool.true_and, Bool.false_and, gI_sI, gI_sL, gI_sA, gI_sM, gL_sI, gL_sL, gL_sA, gL_sM, aI_sI, aI_sL, aI_sA, aI_sM, aL_sI, aL_sL, aL_sA, aL_sM, Bconstant_0, Bconstant_7, Bconstant_11, Bconstant_22, Bconstant_31, Bconstant_37, Bconstant_43, P_expAt, P_isGood]; try dsimp only
          apply hB
          dsimp only [rgo, rfd, Bconstant, Nat.beq, rwp, rst, lv_args, rlk, rs1, rs2, rdl, rky, rct, rcs, rcd, rno, rsw, Value.category, List.filter, List.take, List.drop, List.reverse, List.reverseAux, List.cons_append, List.nil_append, Option.toList, Int.toNat, Int.reduceToNat, if_pos, if_neg, reduceIte, ↓reduceIte, Nat.reduceAdd, Nat.reduceEqDiff, Nat.reduceBEq, beq_self_eq_true, Bool.not_true, Bool.not_false, Bool.and_true, Bool.and_false, Bool.true_and, Bool.false_and, gI_sI, gI_sL, gI_sA, gI_sM, gL_sI, gL_sL, gL_sA, gL_sM, aI_sI, aI_sL, aI_sA, aI_sM, aL_sI, aL_sL, aL_sA, aL_sM, Bconstant_0, Bconstant_7, Bconstant_11, Bconstant_22, Bconstant_31, Bconstant_37, Bconstant_43, P_expAt, P_isGood]; try dsimp only
          exact ⟨_, rfl, hjd1, hfg1⟩
        · apply hB
          dsimp only [rgo, rfd, Bconstant, Nat.beq, rwp, rst, lv_args, rlk, rs1, rs2, rdl, rky, rct, rcs, rcd, rno, rsw, Value.category, List.filter, List.take, List.drop, List.reverse, List.reverseAux, List.cons_append, List.nil_append, Option.toList, Int.toNat, Int.reduceToNat, if_pos, if_neg, reduceIte, ↓reduceIte, Nat.reduceAdd, Nat.reduceEqDiff, Nat.reduceBEq, beq_self_eq_true, Bool.not_true, Bool.not_false, Bool.and_true, Bool.and_false, Bool.true_and, Bool.false_and, gI_sI, gI_sL, gI_sA, gI_sM, gL_sI, gL_sL, gL_sA, gL_sM, aI_sI, aI_sL, aI_sA, aI_sM, aL_sI, aL_sL, aL_sA, aL_sM, Bconstant_0, Bconstant_7, Bconstant_11, Bconstant_22, Bconstant_31, Bconstant_37, Bconstant_43, P_expAt, P_isGood]; try dsimp only
          refine ⟨rfl, rfl, (in_78 (by lia) (by lia)), fun h6 => ?_, fun h6 => ?_⟩
          · apply hB
            dsimp only [rgo, rfd, Bconstant, Nat.beq, rwp, rst, lv_args, rlk, rs1, rs2, rdl, rky, rct, rcs, rcd, rno, rsw, Value.category, List.filter, List.take, List.drop, List.reverse, List.reverseAux, List.cons_append, List.nil_append, Option.toList, Int.toNat, Int.reduceToNat, if_pos, if_neg, reduceIte, ↓reduceIte, Nat.reduceAdd, Nat.reduceEqDiff, Nat.reduceBEq, beq_self_eq_true, Bool.not_true, Bool.not_false, Bool.and_true, Bool.and_false, Bool.true_and, Bool.false_and, gI_sI, gI_sL, gI_sA, gI_sM, gL_sI, gL_sL, gL_sA, gL_sM, aI_sI, aI_sL, aI_sA, aI_sM, aL_sI, aL_sL, aL_sA, aL_sM, Bconstant_0, Bconstant_7, Bconstant_11, Bconstant_22, Bconstant_31, Bconstant_37, Bconstant_43, P_expAt, P_isGood]; try dsimp only
            refine ⟨rfl, rfl, (in_79 (by lia) (by lia)), ?_⟩
            apply hB
            dsimp only [rgo, rfd, Bconstant, Nat.beq, rwp, rst, lv_args, rlk, rs1, rs2, rdl, rky, rct, rcs, rcd, rno, rsw, Value.category, List.filter, List.take, List.drop, List.reverse, List.reverseAux, List.cons_append, List.nil_append, Option.toList, Int.toNat, Int.reduceToNat, if_pos, if_neg, reduceIte, ↓reduceIte, Nat.reduceAdd, Nat.reduceEqDiff, Nat.reduceBEq, beq_self_eq_true, Bool.not_true, Bool.not_false, Bool.and_true, Bool.and_false, Bool.true_and, Bool.false_and, gI_sI, gI_sL, gI_sA, gI_sM, gL_sI, gL_sL, gL_sA, gL_sM, aI_sI, aI_sL, aI_sA, aI_sM, aL_sI, aL_sL, aL_sA, aL_sM, Bconstant_0, Bconstant_7, Bconstant_11, Bconstant_22, Bconstant_31, Bconstant_37, Bconstant_43, P_expAt, P_isGood]; try dsimp only
            exact ⟨_, rfl, hjd1, hfg1⟩
          · apply hB
            dsimp only [rgo, rfd, Bconstant, Nat.beq, rwp, rst, lv_args, rlk, rs1, rs2, rdl, rky, rct, rcs, rcd, rno, rsw, Value.category, List.filter, List.take, List.drop, List.reverse, List.reverseAux, List.cons_append, List.nil_append, Option.toList, Int.toNat, Int.reduceToNat, if_pos, if_neg, reduceIte, ↓reduceIte, Nat.reduceAdd, Nat.reduceEqDiff, Nat.reduceBEq, beq_self_eq_true, Bool.not_true, Bool.not_false, Bool.and_true, Bool.and_false, Bool.true_and, Bool.false_and, gI_sI, gI_sL, gI_sA, gI_sM, gL_sI, gL_sL, gL_sA, gL_sM, aI_sI, aI_sL, aI_sA, aI_sM, aL_sI, aL_sL, aL_sA, aL_sM, Bconstant_0, Bconstant_7, Bconstant_11, Bconstant_22, Bconstant_31, Bconstant_37, Bconstant_43, P_expAt, P_isGood]; try dsimp only
            apply hB
            dsimp only [rgo, rfd, Bconstant, Nat.beq, rwp, rst, lv_args, rlk, rs1, rs2, rdl, rky, rct, rcs, rcd, rno, rsw, Value.category, List.filter, List.take, List.drop, List.reverse, List.reverseAux, List.cons_append, List.nil_append, Option.toList, Int.toNat, Int.reduceToNat, if_pos, if_neg, reduceIte, ↓reduceIte, Nat.reduceAdd, Nat.reduceEqDiff, Nat.reduceBEq, beq_self_eq_true, Bool.not_true, Bool.not_false, Bool.and_true, Bool.and_false, Bool.true_and, Bool.false_and, gI_sI, gI_sL, gI_sA, gI_sM, gL_sI, gL_sL, gL_sA, gL_sM, aI_sI, aI_sL, aI_sA, aI_sM, aL_sI, aL_sL, aL_sA, aL_sM, Bconstant_0, Bconstant_7, Bconstant_11, Bconstant_22, Bconstant_31, Bconstant_37, Bconstant_43, P_expAt, P_isGood]; try dsimp only
            exact ⟨_, rfl, hjd1, hfg1⟩
    next => exact hP.elim
theorem m_constant (l : Launch) : RMet l 8 136 P_constant Q_constant := by
  refine RMet.by Bconstant [(134, P_expAt, Q_expAt), (125, P_isGood, Q_isGood)] roconstant okBconstant (ctc (m_expAt l) (by decide) (ctc (m_isGood l) (by decide) ct0)) ?_ b_constant
  · intro As σ hP
    unfold P_constant at hP
    split at hP
    next => exact Nat.le_of_ble_eq_true rfl
    next => exact hP.elim
set_option maxRecDepth 100000 in
theorem e_constant (l : Launch) : RMetE l 8 136 P_constant Q_constant := by
  refine RMetE.by Bconstant [(134, P_expAt, Q_expAt), (125, P_isGood, Q_isGood)] rfl rfl roconstant okBconstant (ctEc (e_expAt l) (by decide) (ctEc (e_isGood l) (by decide) ctE0)) ?_ b_constant
  · intro As σ hP
    unfold P_constant at hP
    split at hP
    next => exact Nat.le_of_ble_eq_true rfl
    next => exact hP.elim
def P_ends : RP := fun As σ => match As with
  | [.int i] => IG σ
  | _ => False
def Q_ends : RQ := fun As σ w τ => match As with
  | [.int i] => ∃ r : Int32, w = some (.int r) ∧ JD τ ∧ Fg σ τ
  | _ => False
set_option maxRecDepth 100000 in
set_option maxHeartbeats 4000000 in
theorem b_ends : Bod Bends [(125, P_isGood, Q_isGood), (129, P_isToken, Q_isToken)] P_ends Q_ends := by
  · intro As σ hP G hB hW
    unfold P_ends at hP
    split at hP
    next i => 
      unfold Q_ends at hB
      dsimp only at hB
      have hcnt := hP.2.1
      apply hB
      dsimp only [rgo, rfd, Bends, Nat.beq, rwp, rst, lv_args, rlk, rs1, rs2, rdl, rky, rct, rcs, rcd, rno, rsw, Value.category, List.filter, List.take, List.drop, List.reverse, List.reverseAux, List.cons_append, List.nil_append, Option.toList, Int.toNat, Int.reduceToNat, if_pos, if_neg, reduceIte, ↓reduceIte, Nat.reduceAdd, Nat.reduceEqDiff, Nat.reduceBEq, beq_self_eq_true, Bool.not_true, Bool.not_false, Bool.and_true, Bool.and_false, Bool.true_and, Bool.false_and, gI_sI, gI_sL, gI_sA, gI_sM, gL_sI, gL_sL, gL_sA, gL_sM, aI_sI, aI_sL, aI_sA, aI_sM, aL_sI, aL_sL, aL_sA, aL_sM, Bends_0, Bends_7, Bends_10, Bends_18, Bends_27, Bends_31, Bends_40, Bends_44, Bends_45, oi_0, oi_1, oi_m1, oi_m2, P_isGood, P_isToken]; try dsimp only
      refine ⟨rfl, (by decide), (hP), fun w1 τ1 hq1 => ?_⟩
      obtain ⟨r1, rfl, hr1, hjd1, hfg1⟩ := hq1
      rcases hr1 with rfl | ⟨rfl, he1⟩
      · dsimp only [Option.toList, List.cons_append, List.nil_append, Nat.beq, gI_sI, gI_sL, gI_sA, gI_sM, gL_sI, gL_sL, gL_sA, gL_sM, aI_sI, aI_sL, aI_sA, aI_sM, aL_sI, aL_sL, aL_sA, aL_sM]
        refine ⟨fun h2 => absurd h2 (by decide), fun h2 => ?_⟩
        clear h2
        apply hB
        dsimp only [rgo, rfd, Bends, Nat.beq, rwp, rst, lv_args, rlk, rs1, rs2, rdl, rky, rct, rcs, rcd, rno, rsw, Value.category, List.filter, List.take, List.drop, List.reverse, List.reverseAux, List.cons_append, List.nil_append, Option.toList, Int.toNat, Int.reduceToNat, if_pos, if_neg, reduceIte, ↓reduceIte, Nat.reduceAdd, Nat.reduceEqDiff, Nat.reduceBEq, beq_self_eq_true, Bool.not_true, Bool.not_false, Bool.and_true, Bool.and_false, Bool.true_and, Bool.false_and, gI_sI, gI_sL, gI_sA, gI_sM, gL_sI, gL_sL, gL_sA, gL_sM, aI_sI, aI_sL, aI_sA, aI_sM, aL_sI, aL_sL, aL_sA, aL_sM, Bends_0, Bends_7, Bends_10, Bends_18, Bends_27, Bends_31, Bends_40, Bends_44, Bends_45, oi_0, oi_1, oi_m1, oi_m2, P_isGood, P_isToken]; try dsimp only
        refine ⟨trivial, ?_⟩
        exact ⟨_, rfl, hjd1, hfg1⟩
      · dsimp only [Option.toList, List.cons_append, List.nil_append, Nat.beq, gI_sI, gI_sL, gI_sA, gI_sM, gL_sI, gL_sL, gL_sA, gL_sM, aI_sI, aI_sL, aI_sA, aI_sM, aL_sI, aL_sL, aL_sA, aL_sM]
        refine ⟨fun h3 => ?_, fun h3 => absurd h3 (by decide)⟩
        clear h3
        apply hB
        dsimp only [rgo, rfd, Bends, Nat.beq, rwp, rst, lv_args, rlk, rs1, rs2, rdl, rky, rct, rcs, rcd, rno, rsw, Value.category, List.filter, List.take, List.drop, List.reverse, List.reverseAux, List.cons_append, List.nil_append, Option.toList, Int.toNat, Int.reduceToNat, if_pos, if_neg, reduceIte, ↓reduceIte, Nat.reduceAdd, Nat.reduceEqDiff, Nat.reduceBEq, beq_self_eq_true, Bool.not_true, Bool.not_false, Bool.and_true, Bool.and_false, Bool.true_and, Bool.false_and, gI_sI, gI_sL, gI_sA, gI_sM, gL_sI, gL_sL, gL_sA, gL_sM, aI_sI, aI_sL, aI_sA, aI_sM, aL_sI, aL_sL, aL_sA, aL_sM, Bends_0, Bends_7, Bends_10, Bends_18, Bends_27, Bends_31, Bends_40, Bends_44, Bends_45, oi_0, oi_1, oi_m1, oi_m2, P_isGood, P_isToken]; try dsimp only
        refine ⟨rfl, (by decide), ((by rw [hfg1.1 2 rfl]; exact hcnt)), fun w4 τ4 hq4 => ?_⟩
        obtain ⟨r4, rfl, hr4, e4⟩ := hq4
        obtain rfl := e4.symm
        rcases hr4 with rfl | ⟨rfl, hi4⟩
        · dsimp only [Option.toList, List.cons_append, List.nil_append, Nat.beq, gI_sI, gI_sL, gI_sA, gI_sM, gL_sI, gL_sL, gL_sA, gL_sM, aI_sI, aI_sL, aI_sA, aI_sM, aL_sI, aL_sL, aL_sA, aL_sM]
          refine ⟨fun h5 => ?_, fun h5 => absurd h5 (by decide)⟩
          clear h5
          apply hB
          dsimp only [rgo, rfd, Bends, Nat.beq, rwp, rst, lv_args, rlk, rs1, rs2, rdl, rky, rct, rcs, rcd, rno, rsw, Value.category, List.filter, List.take, List.drop, List.reverse, List.reverseAux, List.cons_append, List.nil_append, Option.toList, Int.toNat, Int.reduceToNat, if_pos, if_neg, reduceIte, ↓reduceIte, Nat.reduceAdd, Nat.reduceEqDiff, Nat.reduceBEq, beq_self_eq_true, Bool.not_true, Bool.not_false, Bool.and_true, Bool.and_false, Bool.true_and, Bool.false_and, gI_sI, gI_sL, gI_sA, gI_sM, gL_sI, gL_sL, gL_sA, gL_sM, aI_sI, aI_sL, aI_sA, aI_sM, aL_sI, aL_sL, aL_sA, aL_sM, Bends_0, Bends_7, Bends_10, Bends_18, Bends_27, Bends_31, Bends_40, Bends_44, Bends_45, oi_0, oi_1, oi_m1, oi_m2, P_isGood, P_isToken]; try dsimp only
          apply hB
          dsimp only [rgo, rfd, Bends, Nat.beq, rwp, rst, lv_args, rlk, rs1, rs2, rdl, rky, rct, rcs, rcd, rno, rsw, Value.category, List.filter, List.take, List.drop, List.reverse, List.reverseAux, List.cons_append, List.nil_append, Option.toList, Int.toNat, Int.reduceToNat, if_pos, if_neg, reduceIte, ↓reduceIte, Nat.reduceAdd, Nat.reduceEqDiff, Nat.reduceBEq, beq_self_eq_true, Bool.not_true, Bool.not_false, Bool.and_true, Bool.and_false, Bool.true_and, Bool.false_and, gI_sI, gI_sL, gI_sA, gI_sM, gL_sI, gL_sL, gL_sA, gL_sM, aI_sI, aI_sL, aI_sA, aI_sM, aL_sI, aL_sL, aL_sA, aL_sM, Bends_0, Bends_7, Bends_10, Bends_18, Bends_27, Bends_31, Bends_40, Bends_44, Bends_45, oi_0, oi_1, oi_m1, oi_m2, P_isGood, P_isToken]; try dsimp only
          refine ⟨trivial, ?_⟩
          exact ⟨_, rfl, hjd1, hfg1⟩
        · dsimp only [Option.toList, List.cons_append, List.nil_append, Nat.beq, gI_sI, gI_sL, gI_sA, gI_sM, gL_sI, gL_sL, gL_sA, gL_sM, aI_sI, aI_sL, aI_sA, aI_sM, aL_sI, aL_sL, aL_sA, aL_sM]
          refine ⟨fun h6 => absurd h6 (by decide), fun h6 => ?_⟩
          clear h6
          apply hB
          dsimp only [rgo, rfd, Bends, Nat.beq, rwp, rst, lv_args, rlk, rs1, rs2, rdl, rky, rct, rcs, rcd, rno, rsw, Value.category, List.filter, List.take, List.drop, List.reverse, List.reverseAux, List.cons_append, List.nil_append, Option.toList, Int.toNat, Int.reduceToNat, if_pos, if_neg, reduceIte, ↓reduceIte, Nat.reduceAdd, Nat.reduceEqDiff, Nat.reduceBEq, beq_self_eq_true, Bool.not_true, Bool.not_false, Bool.and_true, Bool.and_false, Bool.true_and, Bool.false_and, gI_sI, gI_sL, gI_sA, gI_sM, gL_sI, gL_sL, gL_sA, gL_sM, aI_sI, aI_sL, aI_sA, aI_sM, aL_sI, aL_sL, aL_sA, aL_sM, Bends_0, Bends_7, Bends_10, Bends_18, Bends_27, Bends_31, Bends_40, Bends_44, Bends_45, oi_0, oi_1, oi_m1, oi_m2, P_isGood, P_isToken]; try dsimp only
          refine ⟨rfl, rfl, (in_109 (by lia) (by lia)), fun h7 => ?_, fun h7 => ?_⟩
          · apply hB
            dsimp only [rgo, rfd, Bends, Nat.beq, rwp, rst, lv_args, rlk, rs1, rs2, rdl, rky, rct, rcs, rcd, rno, rsw, Value.category, List.filter, List.take, List.drop, List.reverse, List.reverseAux, List.cons_append, List.nil_append, Option.toList, Int.toNat, Int.reduceToNat, if_pos, if_neg, reduceIte, ↓reduceIte, Nat.reduceAdd, Nat.reduceEqDiff, Nat.reduceBEq, beq_self_eq_true, Bool.not_true, Bool.not_false, Bool.and_true, Bool.and_false, Bool.true_and, Bool.false_and, gI_sI, gI_sL, gI_sA, gI_sM, gL_sI, gL_sL, gL_sA, gL_sM, aI_sI, aI_sL, aI_sA, aI_sM, aL_sI, aL_sL, aL_sA, aL_sM, Bends_0, Bends_7, Bends_10, Bends_18, Bends_27, Bends_31, Bends_40, Bends_44, Bends_45, oi_0, oi_1, oi_m1, oi_m2, P_isGood, P_isToken]; try dsimp only
            refine ⟨rfl, rfl, (in_111 (by lia) (by lia)), fun h8 => ?_, fun h8 => ?_⟩
            · apply hB
              dsimp only [rgo, rfd, Bends, Nat.beq, rwp, rst, lv_args, rlk, rs1, rs2, rdl, rky, rct, rcs, rcd, rno, rsw, Value.category, List.filter, List.take, List.drop, List.reverse, List.reverseAux, List.cons_append, List.nil_append, Option.toList, Int.toNat, Int.reduceToNat, if_pos, if_neg, reduceIte, ↓reduceIte, Nat.reduceAdd, Nat.reduceEqDiff, Nat.reduceBEq, beq_self_eq_true, Bool.not_true, Bool.not_false, Bool.and_true, Bool.and_false, Bool.true_and, Bool.false_and, gI_sI, gI_sL, gI_sA, gI_sM, gL_sI, gL_sL, gL_sA, gL_sM, aI_sI, aI_sL, aI_sA, aI_sM, aL_sI, aL_sL, aL_sA, aL_sM, Bends_0, Bends_7, Bends_10, Bends_18, Bends_27, Bends_31, Bends_40, Bends_44, Bends_45, oi_0, oi_1, oi_m1, oi_m2, P_isGood, P_isToken]; try dsimp only
              apply hB
              dsimp only [rgo, rfd, Bends, Nat.beq, rwp, rst, lv_args, rlk, rs1, rs2, rdl, rky, rct, rcs, rcd, rno, rsw, Value.category, List.filter, List.take, List.drop, List.reverse, List.reverseAux, List.cons_append, List.nil_append, Option.toList, Int.toNat, Int.reduceToNat, if_pos, if_neg, reduceIte, ↓reduceIte, Nat.reduceAdd, Nat.reduceEqDiff, Nat.reduceBEq, beq_self_eq_true, Bool.not_true, Bool.not_false, Bool.and_true, Bool.and_false, Bool.true_and, Bool.false_and, gI_sI, gI_sL, gI_sA, gI_sM, gL_sI, gL_sL, gL_sA, gL_sM, aI_sI, aI_sL, aI_sA, aI_sM, aL_sI, aL_sL, aL_sA, aL_sM, Bends_0, Bends_7, Bends_10, Bends_18, Bends_27, Bends_31, Bends_40, Bends_44, Bends_45, oi_0, oi_1, oi_m1, oi_m2, P_isGood, P_isToken]; try dsimp only
              refine ⟨trivial, ?_⟩
              exact ⟨_, rfl, hjd1, hfg1⟩
            · apply hB
              dsimp only [rgo, rfd, Bends, Nat.beq, rwp, rst, lv_args, rlk, rs1, rs2, rdl, rky, rct, rcs, rcd, rno, rsw, Value.category, List.filter, List.take, List.drop, List.reverse, List.reverseAux, List.cons_append, List.nil_append, Option.toList, Int.toNat, Int.reduceToNat, if_pos, if_neg, reduceIte, ↓reduceIte, Nat.reduceAdd, Nat.reduceEqDiff, Nat.reduceBEq, beq_self_eq_true, Bool.not_true, Bool.not_false, Bool.and_true, Bool.and_false, Bool.true_and, Bool.false_and, gI_sI, gI_sL, gI_sA, gI_sM, gL_sI, gL_sL, gL_sA, gL_sM, aI_sI, aI_sL, aI_sA, aI_sM, aL_sI, aL_sL, aL_sA, aL_sM, Bends_0, Bends_7, Bends_10, Bends_18, Bends_27, Bends_31, Bends_40, Bends_44, Bends_45, oi_0, oi_1, oi_m1, oi_m2, P_isGood, P_isToken]; try dsimp only
              apply hB
              dsimp only [rgo, rfd, Bends, Nat.beq, rwp, rst, lv_args, rlk, rs1, rs2, rdl, rky, rct, rcs, rcd, rno, rsw, Value.category, List.filter, List.take, List.drop, List.reverse, List.reverseAux, List.cons_append, List.nil_append, Option.toList, Int.toNat, Int.reduceToNat, if_pos, if_neg, reduceIte, ↓reduceIte, Nat.reduceAdd, Nat.reduceEqDiff, Nat.reduceBEq, beq_self_eq_true, Bool.not_true, Bool.not_false, Bool.and_true, Bool.and_false, Bool.true_and, Bool.false_and, gI_sI, gI_sL, gI_sA, gI_sM, gL_sI, gL_sL, gL_sA, gL_sM, aI_sI, aI_sL, aI_sA, aI_sM, aL_sI, aL_sL, aL_sA, aL_sM, Bends_0, Bends_7, Bends_10, Bends_18, Bends_27, Bends_31, Bends_40, Bends_44, Bends_45, oi_0, oi_1, oi_m1, oi_m2, P_isGood, P_isToken]; try dsimp only
              refine ⟨trivial, ?_⟩
              exact ⟨_, rfl, hjd1, hfg1⟩
          · apply hB
            dsimp only [rgo, rfd, Bends, Nat.beq, rwp, rst, lv_args, rlk, rs1, rs2, rdl, rky, rct, rcs, rcd, rno, rsw, Value.category, List.filter, List.take, List.drop, List.reverse, List.reverseAux, List.cons_append, List.nil_append, Option.toList, Int.toNat, Int.reduceToNat, if_pos, if_neg, reduceIte, ↓reduceIte, Nat.reduceAdd, Nat.reduceEqDiff, Nat.reduceBEq, beq_self_eq_true, Bool.not_true, Bool.not_false, Bool.and_true, Bool.and_false, Bool.true_and, Bool.false_and, gI_sI, gI_sL, gI_sA, gI_sM, gL_sI, gL_sL, gL_sA, gL_sM, aI_sI, aI_sL, aI_sA, aI_sM, aL_sI, aL_sL, aL_sA, aL_sM, Bends_0, Bends_7, Bends_10, Bends_18, Bends_27, Bends_31, Bends_40, Bends_44, Bends_45, oi_0, oi_1, oi_m1, oi_m2, P_isGood, P_isToken]; try dsimp only
            apply hB
            dsimp only [rgo, rfd, Bends, Nat.beq, rwp, rst, lv_args, rlk, rs1, rs2, rdl, rky, rct, rcs, rcd, rno, rsw, Value.category, List.filter, List.take, List.drop, List.reverse, List.reverseAux, List.cons_append, List.nil_append, Option.toList, Int.toNat, Int.reduceToNat, if_pos, if_neg, reduceIte, ↓reduceIte, Nat.reduceAdd, Nat.reduceEqDiff, Nat.reduceBEq, beq_self_eq_true, Bool.not_true, Bool.not_false, Bool.and_true, Bool.and_false, Bool.true_and, Bool.false_and, gI_sI, gI_sL, gI_sA, gI_sM, gL_sI, gL_sL, gL_sA, gL_sM, aI_sI, aI_sL, aI_sA, aI_sM, aL_sI, aL_sL, aL_sA, aL_sM, Bends_0, Bends_7, Bends_10, Bends_18, Bends_27, Bends_31, Bends_40, Bends_44, Bends_45, oi_0, oi_1, oi_m1, oi_m2, P_isGood, P_isToken]; try dsimp only
            refine ⟨trivial, ?_⟩
            exact ⟨_, rfl, hjd1, hfg1⟩
    next => exact hP.elim
theorem m_ends (l : Launch) : RMet l 8 137 P_ends Q_ends := by
  refine RMet.by Bends [(125, P_isGood, Q_isGood), (129, P_isToken, Q_isToken)] roends okBends (ctc (m_isGood l) (by decide) (ctc (m_isToken l) (by decide) ct0)) ?_ b_ends
  · intro As σ hP
    unfold P_ends at hP
    split at hP
    next => exact Nat.le_of_ble_eq_true rfl
    next => exact hP.elim
set_option maxRecDepth 100000 in
theorem e_ends (l : Launch) : RMetE l 8 137 P_ends Q_ends := by
  refine RMetE.by Bends [(125, P_isGood, Q_isGood), (129, P_isToken, Q_isToken)] rfl rfl roends okBends (ctEc (e_isGood l) (by decide) (ctEc (e_isToken l) (by decide) ctE0)) ?_ b_ends
  · intro As σ hP
    unfold P_ends at hP
    split at hP
    next => exact Nat.le_of_ble_eq_true rfl
    next => exact hP.elim
def P_assigned : RP := fun As σ => match As with
  | [.int i, .int k] => IG σ
  | _ => False
def Q_assigned : RQ := fun As σ w τ => match As with
  | [.int i, .int k] => ∃ r : Int32, w = some (.int r) ∧ JD τ ∧ Fg σ τ
  | _ => False
set_option maxRecDepth 100000 in
set_option maxHeartbeats 4000000 in
theorem b_assigned : Bod Bassigned [(125, P_isGood, Q_isGood), (129, P_isToken, Q_isToken)] P_assigned Q_assigned := by
  · intro As σ hP G hB hW
    unfold P_assigned at hP
    split at hP
    next i k => 
      unfold Q_assigned at hB
      dsimp only at hB
      have hcnt := hP.2.1
      apply hB
      dsimp only [rgo, rfd, Bassigned, Nat.beq, rwp, rst, lv_args, rlk, rs1, rs2, rdl, rky, rct, rcs, rcd, rno, rsw, Value.category, List.filter, List.take, List.drop, List.reverse, List.reverseAux, List.cons_append, List.nil_append, Option.toList, Int.toNat, Int.reduceToNat, if_pos, if_neg, reduceIte, ↓reduceIte, Nat.reduceAdd, Nat.reduceEqDiff, Nat.reduceBEq, beq_self_eq_true, Bool.not_true, Bool.not_false, Bool.and_true, Bool.and_false, Bool.true_and, Bool.false_and, gI_sI, gI_sL, gI_sA, gI_sM, gL_sI, gL_sL, gL_sA, gL_sM, aI_sI, aI_sL, aI_sA, aI_sM, aL_sI, aL_sL, aL_sA, aL_sM, Bassigned_0, Bassigned_7, Bassigned_10, Bassigned_18, Bassigned_27, Bassigned_31, Bassigned_39, Bassigned_49, Bassigned_59, Bassigned_61, Bassigned_76, Bassigned_80, Bassigned_81, oi_0, oi_1, oi_m1, oi_m2, P_isGood, P_isToken]; try dsimp only
      refine ⟨rfl, (by decide), (hP), fun w1 τ1 hq1 => ?_⟩
      obtain ⟨r1, rfl, hr1, hjd1, hfg1⟩ := hq1
      rcases hr1 with rfl | ⟨rfl, he1⟩
      · dsimp only [Option.toList, List.cons_append, List.nil_append, Nat.beq, gI_sI, gI_sL, gI_sA, gI_sM, gL_sI, gL_sL, gL_sA, gL_sM, aI_sI, aI_sL, aI_sA, aI_sM, aL_sI, aL_sL, aL_sA, aL_sM]
        refine ⟨fun h2 => absurd h2 (by decide), fun h2 => ?_⟩
        clear h2
        apply hB
        dsimp only [rgo, rfd, Bassigned, Nat.beq, rwp, rst, lv_args, rlk, rs1, rs2, rdl, rky, rct, rcs, rcd, rno, rsw, Value.category, List.filter, List.take, List.drop, List.reverse, List.reverseAux, List.cons_append, List.nil_append, Option.toList, Int.toNat, Int.reduceToNat, if_pos, if_neg, reduceIte, ↓reduceIte, Nat.reduceAdd, Nat.reduceEqDiff, Nat.reduceBEq, beq_self_eq_true, Bool.not_true, Bool.not_false, Bool.and_true, Bool.and_false, Bool.true_and, Bool.false_and, gI_sI, gI_sL, gI_sA, gI_sM, gL_sI, gL_sL, gL_sA, gL_sM, aI_sI, aI_sL, aI_sA, aI_sM, aL_sI, aL_sL, aL_sA, aL_sM, Bassigned_0, Bassigned_7, Bassigned_10, Bassigned_18, Bassigned_27, Bassigned_31, Bassigned_39, Bassigned_49, Bassigned_59, Bassigned_61, Bassigned_76, Bassigned_80, Bassigned_81, oi_0, oi_1, oi_m1, oi_m2, P_isGood, P_isToken]; try dsimp only
        refine ⟨trivial, ?_⟩
        exact ⟨_, rfl, hjd1, hfg1⟩
      · dsimp only [Option.toList, List.cons_append, List.nil_append, Nat.beq, gI_sI, gI_sL, gI_sA, gI_sM, gL_sI, gL_sL, gL_sA, gL_sM, aI_sI, aI_sL, aI_sA, aI_sM, aL_sI, aL_sL, aL_sA, aL_sM]
        refine ⟨fun h3 => ?_, fun h3 => absurd h3 (by decide)⟩
        clear h3
        apply hB
        dsimp only [rgo, rfd, Bassigned, Nat.beq, rwp, rst, lv_args, rlk, rs1, rs2, rdl, rky, rct, rcs, rcd, rno, rsw, Value.category, List.filter, List.take, List.drop, List.reverse, List.reverseAux, List.cons_append, List.nil_append, Option.toList, Int.toNat, Int.reduceToNat, if_pos, if_neg, reduceIte, ↓reduceIte, Nat.reduceAdd, Nat.reduceEqDiff, Nat.reduceBEq, beq_self_eq_true, Bool.not_true, Bool.not_false, Bool.and_true, Bool.and_false, Bool.true_and, Bool.false_and, gI_sI, gI_sL, gI_sA, gI_sM, gL_sI, gL_sL, gL_sA, gL_sM, aI_sI, aI_sL, aI_sA, aI_sM, aL_sI, aL_sL, aL_sA, aL_sM, Bassigned_0, Bassigned_7, Bassigned_10, Bassigned_18, Bassigned_27, Bassigned_31, Bassigned_39, Bassigned_49, Bassigned_59, Bassigned_61, Bassigned_76, Bassigned_80, Bassigned_81, oi_0, oi_1, oi_m1, oi_m2, P_isGood, P_isToken]; try dsimp only
        refine ⟨rfl, (by decide), ((by rw [hfg1.1 2 rfl]; exact hcnt)), fun w4 τ4 hq4 => ?_⟩
        obtain ⟨r4, rfl, hr4, e4⟩ := hq4
        obtain rfl := e4.symm
        rcases hr4 with rfl | ⟨rfl, hi4⟩
        · dsimp only [Option.toList, List.cons_append, List.nil_append, Nat.beq, gI_sI, gI_sL, gI_sA, gI_sM, gL_sI, gL_sL, gL_sA, gL_sM, aI_sI, aI_sL, aI_sA, aI_sM, aL_sI, aL_sL, aL_sA, aL_sM]
          refine ⟨fun h5 => ?_, fun h5 => absurd h5 (by decide)⟩
          clear h5
          apply hB
          dsimp only [rgo, rfd, Bassigned, Nat.beq, rwp, rst, lv_args, rlk, rs1, rs2, rdl, rky, rct, rcs, rcd, rno, rsw, Value.category, List.filter, List.take, List.drop, List.reverse, List.reverseAux, List.cons_append, List.nil_append, Option.toList, Int.toNat, Int.reduceToNat, if_pos, if_neg, reduceIte, ↓reduceIte, Nat.reduceAdd, Nat.reduceEqDiff, Nat.reduceBEq, beq_self_eq_true, Bool.not_true, Bool.not_false, Bool.and_true, Bool.and_false, Bool.true_and, Bool.false_and, gI_sI, gI_sL, gI_sA, gI_sM, gL_sI, gL_sL, gL_sA, gL_sM, aI_sI, aI_sL, aI_sA, aI_sM, aL_sI, aL_sL, aL_sA, aL_sM, Bassigned_0, Bassigned_7, Bassigned_10, Bassigned_18, Bassigned_27, Bassigned_31, Bassigned_39, Bassigned_49, Bassigned_59, Bassigned_61, Bassigned_76, Bassigned_80, Bassigned_81, oi_0, oi_1, oi_m1, oi_m2, P_isGood, P_isToken]; try dsimp only
          refine ⟨trivial, ?_⟩
          exact ⟨_, rfl, hjd1, hfg1⟩
        · dsimp only [Option.toList, List.cons_append, List.nil_append, Nat.beq, gI_sI, gI_sL, gI_sA, gI_sM, gL_sI, gL_sL, gL_sA, gL_sM, aI_sI, aI_sL, aI_sA, aI_sM, aL_sI, aL_sL, aL_sA, aL_sM]
          refine ⟨fun h6 => absurd h6 (by decide), fun h6 => ?_⟩
          clear h6
          apply hB
          dsimp only [rgo, rfd, Bassigned, Nat.beq, rwp, rst, lv_args, rlk, rs1, rs2, rdl, rky, rct, rcs, rcd, rno, rsw, Value.category, List.filter, List.take, List.drop, List.reverse, List.reverseAux, List.cons_append, List.nil_append, Option.toList, Int.toNat, Int.reduceToNat, if_pos, if_neg, reduceIte, ↓reduceIte, Nat.reduceAdd, Nat.reduceEqDiff, Nat.reduceBEq, beq_self_eq_true, Bool.not_true, Bool.not_false, Bool.and_true, Bool.and_false, Bool.true_and, Bool.false_and, gI_sI, gI_sL, gI_sA, gI_sM, gL_sI, gL_sL, gL_sA, gL_sM, aI_sI, aI_sL, aI_sA, aI_sM, aL_sI, aL_sL, aL_sA, aL_sM, Bassigned_0, Bassigned_7, Bassigned_10, Bassigned_18, Bassigned_27, Bassigned_31, Bassigned_39, Bassigned_49, Bassigned_59, Bassigned_61, Bassigned_76, Bassigned_80, Bassigned_81, oi_0, oi_1, oi_m1, oi_m2, P_isGood, P_isToken]; try dsimp only
          refine ⟨rfl, rfl, (in_109 (by lia) (by lia)), fun h7 => ?_, fun h7 => ?_⟩
          · apply hB
            dsimp only [rgo, rfd, Bassigned, Nat.beq, rwp, rst, lv_args, rlk, rs1, rs2, rdl, rky, rct, rcs, rcd, rno, rsw, Value.category, List.filter, List.take, List.drop, List.reverse, List.reverseAux, List.cons_append, List.nil_append, Option.toList, Int.toNat, Int.reduceToNat, if_pos, if_neg, reduceIte, ↓reduceIte, Nat.reduceAdd, Nat.reduceEqDiff, Nat.reduceBEq, beq_self_eq_true, Bool.not_true, Bool.not_false, Bool.and_true, Bool.and_false, Bool.true_and, Bool.false_and, gI_sI, gI_sL, gI_sA, gI_sM, gL_sI, gL_sL, gL_sA, gL_sM, aI_sI, aI_sL, aI_sA, aI_sM, aL_sI, aL_sL, aL_sA, aL_sM, Bassigned_0, Bassigned_7, Bassigned_10, Bassigned_18, Bassigned_27, Bassigned_31, Bassigned_39, Bassigned_49, Bassigned_59, Bassigned_61, Bassigned_76, Bassigned_80, Bassigned_81, oi_0, oi_1, oi_m1, oi_m2, P_isGood, P_isToken]; try dsimp only
            refine ⟨trivial, ?_⟩
            exact ⟨_, rfl, hjd1, hfg1⟩
          · apply hB
            dsimp only [rgo, rfd, Bassigned, Nat.beq, rwp, rst, lv_args, rlk, rs1, rs2, rdl, rky, rct, rcs, rcd, rno, rsw, Value.category, List.filter, List.take, List.drop, List.reverse, List.reverseAux, List.cons_append, List.nil_append, Option.toList, Int.toNat, Int.reduceToNat, if_pos, if_neg, reduceIte, ↓reduceIte, Nat.reduceAdd, Nat.reduceEqDiff, Nat.reduceBEq, beq_self_eq_true, Bool.not_true, Bool.not_false, Bool.and_true, Bool.and_false, Bool.true_and, Bool.false_and, gI_sI, gI_sL, gI_sA, gI_sM, gL_sI, gL_sL, gL_sA, gL_sM, aI_sI, aI_sL, aI_sA, aI_sM, aL_sI, aL_sL, aL_sA, aL_sM, Bassigned_0, Bassigned_7, Bassigned_10, Bassigned_18, Bassigned_27, Bassigned_31, Bassigned_39, Bassigned_49, Bassigned_59, Bassigned_61, Bassigned_76, Bassigned_80, Bassigned_81, oi_0, oi_1, oi_m1, oi_m2, P_isGood, P_isToken]; try dsimp only
            refine ⟨fun h8 => ?_, fun h8 => ?_⟩
            · apply hB
              dsimp only [rgo, rfd, Bassigned, Nat.beq, rwp, rst, lv_args, rlk, rs1, rs2, rdl, rky, rct, rcs, rcd, rno, rsw, Value.category, List.filter, List.take, List.drop, List.reverse, List.reverseAux, List.cons_append, List.nil_append, Option.toList, Int.toNat, Int.reduceToNat, if_pos, if_neg, reduceIte, ↓reduceIte, Nat.reduceAdd, Nat.reduceEqDiff, Nat.reduceBEq, beq_self_eq_true, Bool.not_true, Bool.not_false, Bool.and_true, Bool.and_false, Bool.true_and, Bool.false_and, gI_sI, gI_sL, gI_sA, gI_sM, gL_sI, gL_sL, gL_sA, gL_sM, aI_sI, aI_sL, aI_sA, aI_sM, aL_sI, aL_sL, aL_sA, aL_sM, Bassigned_0, Bassigned_7, Bassigned_10, Bassigned_18, Bassigned_27, Bassigned_31, Bassigned_39, Bassigned_49, Bassigned_59, Bassigned_61, Bassigned_76, Bassigned_80, Bassigned_81, oi_0, oi_1, oi_m1, oi_m2, P_isGood, P_isToken]; try dsimp only
              refine ⟨trivial, ?_⟩
              exact ⟨_, rfl, hjd1, hfg1⟩
            · have n42 := hjd1.1.j.v
              apply hB
              dsimp only [rgo, rfd, Bassigned, Nat.beq, rwp, rst, lv_args, rlk, rs1, rs2, rdl, rky, rct, rcs, rcd, rno, rsw, Value.category, List.filter, List.take, List.drop, List.reverse, List.reverseAux, List.cons_append, List.nil_append, Option.toList, Int.toNat, Int.reduceToNat, if_pos, if_neg, reduceIte, ↓reduceIte, Nat.reduceAdd, Nat.reduceEqDiff, Nat.reduceBEq, beq_self_eq_true, Bool.not_true, Bool.not_false, Bool.and_true, Bool.and_false, Bool.true_and, Bool.false_and, gI_sI, gI_sL, gI_sA, gI_sM, gL_sI, gL_sL, gL_sA, gL_sM, aI_sI, aI_sL, aI_sA, aI_sM, aL_sI, aL_sL, aL_sA, aL_sM, Bassigned_0, Bassigned_7, Bassigned_10, Bassigned_18, Bassigned_27, Bassigned_31, Bassigned_39, Bassigned_49, Bassigned_59, Bassigned_61, Bassigned_76, Bassigned_80, Bassigned_81, oi_0, oi_1, oi_m1, oi_m2, P_isGood, P_isToken]; try dsimp only
              refine ⟨rfl, fun h9 => ?_, fun h9 => ?_⟩
              · apply hB
                dsimp only [rgo, rfd, Bassigned, Nat.beq, rwp, rst, lv_args, rlk, rs1, rs2, rdl, rky, rct, rcs, rcd, rno, rsw, Value.category, List.filter, List.take, List.drop, List.reverse, List.reverseAux, List.cons_append, List.nil_append, Option.toList, Int.toNat, Int.reduceToNat, if_pos, if_neg, reduceIte, ↓reduceIte, Nat.reduceAdd, Nat.reduceEqDiff, Nat.reduceBEq, beq_self_eq_true, Bool.not_true, Bool.not_false, Bool.and_true, Bool.and_false, Bool.true_and, Bool.false_and, gI_sI, gI_sL, gI_sA, gI_sM, gL_sI, gL_sL, gL_sA, gL_sM, aI_sI, aI_sL, aI_sA, aI_sM, aL_sI, aL_sL, aL_sA, aL_sM, Bassigned_0, Bassigned_7, Bassigned_10, Bassigned_18, Bassigned_27, Bassigned_31, Bassigned_39, Bassigned_49, Bassigned_59, Bassigned_61, Bassigned_76, Bassigned_80, Bassigned_81, oi_0, oi_1, oi_m1, oi_m2, P_isGood, P_isToken]; try dsimp only
                refine ⟨trivial, ?_⟩
                exact ⟨_, rfl, hjd1, hfg1⟩
              · apply hB
                dsimp only [rgo, rfd, Bassigned, Nat.beq, rwp, rst, lv_args, rlk, rs1, rs2, rdl, rky, rct, rcs, rcd, rno, rsw, Value.category, List.filter, List.take, List.drop, List.reverse, List.reverseAux, List.cons_append, List.nil_append, Option.toList, Int.toNat, Int.reduceToNat, if_pos, if_neg, reduceIte, ↓reduceIte, Nat.reduceAdd, Nat.reduceEqDiff, Nat.reduceBEq, beq_self_eq_true, Bool.not_true, Bool.not_false, Bool.and_true, Bool.and_false, Bool.true_and, Bool.false_and, gI_sI, gI_sL, gI_sA, gI_sM, gL_sI, gL_sL, gL_sA, gL_sM, aI_sI, aI_sL, aI_sA, aI_sM, aL_sI, aL_sL, aL_sA, aL_sM, Bassigned_0, Bassigned_7, Bassigned_10, Bassigned_18, Bassigned_27, Bassigned_31, Bassigned_39, Bassigned_49, Bassigned_59, Bassigned_61, Bassigned_76, Bassigned_80, Bassigned_81, oi_0, oi_1, oi_m1, oi_m2, P_isGood, P_isToken]; try dsimp only
                refine ⟨rfl, rfl, (in_43 (by lia) (by lia)), fun h10 => ?_, fun h10 => ?_⟩
                · apply hB
                  dsimp only [rgo, rfd, Bassigned, Nat.beq, rwp, rst, lv_args, rlk, rs1, rs2, rdl, rky, rct, rcs, rcd, rno, rsw, Value.category, List.filter, List.take, List.drop, List.reverse, List.reverseAux, List.cons_append, List.nil_append, Option.toList, Int.toNat, Int.reduceToNat, if_pos, if_neg, reduceIte, ↓reduceIte, Nat.reduceAdd, Nat.reduceEqDiff, Nat.reduceBEq, beq_self_eq_true, Bool.not_true, Bool.not_false, Bool.and_true, Bool.and_false, Bool.true_and, Bool.false_and, gI_sI, gI_sL, gI_sA, gI_sM, gL_sI, gL_sL, gL_sA, gL_sM, aI_sI, aI_sL, aI_sA, aI_sM, aL_sI, aL_sL, aL_sA, aL_sM, Bassigned_0, Bassigned_7, Bassigned_10, Bassigned_18, Bassigned_27, Bassigned_31, Bassigned_39, Bassigned_49, Bassigned_59, Bassigned_61, Bassigned_76, Bassigned_80, Bassigned_81, oi_0, oi_1, oi_m1, oi_m2, P_isGood, P_isToken]; try dsimp only
                  refine ⟨trivial, ?_⟩
                  exact ⟨_, rfl, hjd1, hfg1⟩
                · apply hB
                  dsimp only [rgo, rfd, Bassigned, Nat.beq, rwp, rst, lv_args, rlk, rs1, rs2, rdl, rky, rct, rcs, rcd, rno, rsw, Value.category, List.filter, List.take, List.drop, List.reverse, List.reverseAux, List.cons_append, List.nil_append, Option.toList, Int.toNat, Int.reduceToNat, if_pos, if_neg, reduceIte, ↓reduceIte, Nat.reduceAdd, Nat.reduceEqDiff, Nat.reduceBEq, beq_self_eq_true, Bool.not_true, Bool.not_false, Bool.and_true, Bool.and_false, Bool.true_and, Bool.false_and, gI_sI, gI_sL, gI_sA, gI_sM, gL_sI, gL_sL, gL_sA, gL_sM, aI_sI, aI_sL, aI_sA, aI_sM, aL_sI, aL_sL, aL_sA, aL_sM, Bassigned_0, Bassigned_7, Bassigned_10, Bassigned_18, Bassigned_27, Bassigned_31, Bassigned_39, Bassigned_49, Bassigned_59, Bassigned_61, Bassigned_76, Bassigned_80, Bassigned_81, oi_0, oi_1, oi_m1, oi_m2, P_isGood, P_isToken]; try dsimp only
                  refine ⟨rfl, rfl, (in_48 (by lia) (by lia)), fun h11 => ?_, fun h11 => ?_⟩
                  · apply hB
                    dsimp only [rgo, rfd, Bassigned, Nat.beq, rwp, rst, lv_args, rlk, rs1, rs2, rdl, rky, rct, rcs, rcd, rno, rsw, Value.category, List.filter, List.take, List.drop, List.reverse, List.reverseAux, List.cons_append, List.nil_append, Option.toList, Int.toNat, Int.reduceToNat, if_pos, if_neg, reduceIte, ↓reduceIte, Nat.reduceAdd, Nat.reduceEqDiff, Nat.reduceBEq, beq_self_eq_true, Bool.not_true, Bool.not_false, Bool.and_true, Bool.and_false, Bool.true_and, Bool.false_and, gI_sI, gI_sL, gI_sA, gI_sM, gL_sI, gL_sL, gL_sA, gL_sM, aI_sI, aI_sL, aI_sA, aI_sM, aL_sI, aL_sL, aL_sA, aL_sM, Bassigned_0, Bassigned_7, Bassigned_10, Bassigned_18, Bassigned_27, Bassigned_31, Bassigned_39, Bassigned_49, Bassigned_59, Bassigned_61, Bassigned_76, Bassigned_80, Bassigned_81, oi_0, oi_1, oi_m1, oi_m2, P_isGood, P_isToken]; try dsimp only
                    refine ⟨rfl, rfl, (in_110 (by lia) (by lia)), ?_⟩
                    intro v12 _
                    refine ⟨fun h13 => ?_, fun h13 => ?_⟩
                    · apply hB
                      dsimp only [rgo, rfd, Bassigned, Nat.beq, rwp, rst, lv_args, rlk, rs1, rs2, rdl, rky, rct, rcs, rcd, rno, rsw, Value.category, List.filter, List.take, List.drop, List.reverse, List.reverseAux, List.cons_append, List.nil_append, Option.toList, Int.toNat, Int.reduceToNat, if_pos, if_neg, reduceIte, ↓reduceIte, Nat.reduceAdd, Nat.reduceEqDiff, Nat.reduceBEq, beq_self_eq_true, Bool.not_true, Bool.not_false, Bool.and_true, Bool.and_false, Bool.true_and, Bool.false_and, gI_sI, gI_sL, gI_sA, gI_sM, gL_sI, gL_sL, gL_sA, gL_sM, aI_sI, aI_sL, aI_sA, aI_sM, aL_sI, aL_sL, aL_sA, aL_sM, Bassigned_0, Bassigned_7, Bassigned_10, Bassigned_18, Bassigned_27, Bassigned_31, Bassigned_39, Bassigned_49, Bassigned_59, Bassigned_61, Bassigned_76, Bassigned_80, Bassigned_81, oi_0, oi_1, oi_m1, oi_m2, P_isGood, P_isToken]; try dsimp only
                      apply hB
                      dsimp only [rgo, rfd, Bassigned, Nat.beq, rwp, rst, lv_args, rlk, rs1, rs2, rdl, rky, rct, rcs, rcd, rno, rsw, Value.category, List.filter, List.take, List.drop, List.reverse, List.reverseAux, List.cons_append, List.nil_append, Option.toList, Int.toNat, Int.reduceToNat, if_pos, if_neg, reduceIte, ↓reduceIte, Nat.reduceAdd, Nat.reduceEqDiff, Nat.reduceBEq, beq_self_eq_true, Bool.not_true, Bool.not_false, Bool.and_true, Bool.and_false, Bool.true_and, Bool.false_and, gI_sI, gI_sL, gI_sA, gI_sM, gL_sI, gL_sL, gL_sA, gL_sM, aI_sI, aI_sL, aI_sA, aI_sM, aL_sI, aL_sL, aL_sA, aL_sM, Bassigned_0, Bassigned_7, Bassigned_10, Bassigned_18, Bassigned_27, Bassigned_31, Bassigned_39, Bassigned_49, Bassigned_59, Bassigned_61, Bassigned_76, Bassigned_80, Bassigned_81, oi_0, oi_1, oi_m1, oi_m2, P_isGood, P_isToken]; try dsimp only
                      refine ⟨trivial, ?_⟩
                      exact ⟨_, rfl, hjd1, hfg1⟩
                    · apply hB
                      dsimp only [rgo, rfd, Bassigned, Nat.beq, rwp, rst, lv_args, rlk, rs1, rs2, rdl, rky, rct, rcs, rcd, rno, rsw, Value.category, List.filter, List.take, List.drop, List.reverse, List.reverseAux, List.cons_append, List.nil_append, Option.toList, Int.toNat, Int.reduceToNat, if_pos, if_neg, reduceIte, ↓reduceIte, Nat.reduceAdd, Nat.reduceEqDiff, Nat.reduceBEq, beq_self_eq_true, Bool.not_true, Bool.not_false, Bool.and_true, Bool.and_false, Bool.true_and, Bool.false_and, gI_sI, gI_sL, gI_sA, gI_sM, gL_sI, gL_sL, gL_sA, gL_sM, aI_sI, aI_sL, aI_sA, aI_sM, aL_sI, aL_sL, aL_sA, aL_sM, Bassigned_0, Bassigned_7, Bassigned_10, Bassigned_18, Bassigned_27, Bassigned_31, Bassigned_39, Bassigned_49, Bassigned_59, Bassigned_61, Bassigned_76, Bassigned_80, Bassigned_81, oi_0, oi_1, oi_m1, oi_m2, P_isGood, P_isToken]; try dsimp only
                      apply hB
                      dsimp only [rgo, rfd, Bassigned, Nat.beq, rwp, rst, lv_args, rlk, rs1, rs2, rdl, rky, rct, rcs, rcd, rno, rsw, Value.category, List.filter, List.take, List.drop, List.reverse, List.reverseAux, List.cons_append, List.nil_append, Option.toList, Int.toNat, Int.reduceToNat, if_pos, if_neg, reduceIte, ↓reduceIte, Nat.reduceAdd, Nat.reduceEqDiff, Nat.reduceBEq, beq_self_eq_true, Bool.not_true, Bool.not_false, Bool.and_true, Bool.and_false, Bool.true_and, Bool.false_and, gI_sI, gI_sL, gI_sA, gI_sM, gL_sI, gL_sL, gL_sA, gL_sM, aI_sI, aI_sL, aI_sA, aI_sM, aL_sI, aL_sL, aL_sA, aL_sM, Bassigned_0, Bassigned_7, Bassigned_10, Bassigned_18, Bassigned_27, Bassigned_31, Bassigned_39, Bassigned_49, Bassigned_59, Bassigned_61, Bassigned_76, Bassigned_80, Bassigned_81, oi_0, oi_1, oi_m1, oi_m2, P_isGood, P_isToken]; try dsimp only
                      refine ⟨trivial, ?_⟩
                      exact ⟨_, rfl, hjd1, hfg1⟩
                  · apply hB
                    dsimp only [rgo, rfd, Bassigned, Nat.beq, rwp, rst, lv_args, rlk, rs1, rs2, rdl, rky, rct, rcs, rcd, rno, rsw, Value.category, List.filter, List.take, List.drop, List.reverse, List.reverseAux, List.cons_append, List.nil_append, Option.toList, Int.toNat, Int.reduceToNat, if_pos, if_neg, reduceIte, ↓reduceIte, Nat.reduceAdd, Nat.reduceEqDiff, Nat.reduceBEq, beq_self_eq_true, Bool.not_true, Bool.not_false, Bool.and_true, Bool.and_false, Bool.true_and, Bool.false_and, gI_sI, gI_sL, gI_sA, gI_sM, gL_sI, gL_sL, gL_sA, gL_sM, aI_sI, aI_sL, aI_sA, aI_sM, aL_sI, aL_sL, aL_sA, aL_sM, Bassigned_0, Bassigned_7, Bassigned_10, Bassigned_18, Bassigned_27, Bassigned_31, Bassigned_39, Bassigned_49, Bassigned_59, Bassigned_61, Bassigned_76, Bassigned_80, Bassigned_81, oi_0, oi_1, oi_m1, oi_m2, P_isGood, P_isToken]; try dsimp only
                    refine ⟨trivial, ?_⟩
                    exact ⟨_, rfl, hjd1, hfg1⟩
    next => exact hP.elim
theorem m_assigned (l : Launch) : RMet l 8 138 P_assigned Q_assigned := by
  refine RMet.by Bassigned [(125, P_isGood, Q_isGood), (129, P_isToken, Q_isToken)] roassigned okBassigned (ctc (m_isGood l) (by decide) (ctc (m_isToken l) (by decide) ct0)) ?_ b_assigned
  · intro As σ hP
    unfold P_assigned at hP
    split at hP
    next => exact Nat.le_of_ble_eq_true rfl
    next => exact hP.elim
set_option maxRecDepth 100000 in
theorem e_assigned (l : Launch) : RMetE l 8 138 P_assigned Q_assigned := by
  refine RMetE.by Bassigned [(125, P_isGood, Q_isGood), (129, P_isToken, Q_isToken)] rfl rfl roassigned okBassigned (ctEc (e_isGood l) (by decide) (ctEc (e_isToken l) (by decide) ctE0)) ?_ b_assigned
  · intro As σ hP
    unfold P_assigned at hP
    split at hP
    next => exact Nat.le_of_ble_eq_true rfl
    next => exact hP.elim
def P_ran : RP := fun As σ => match As with
  | [.int what] => 0 ≤ (gI σ 148) ∧ (gI σ 148) ≤ 200
  | _ => False
def Q_ran : RQ := fun As σ w τ => match As with
  | [.int what] => ∃ r : Int64, w = some (.long r) ∧ τ = σ
  | _ => False
set_option maxRecDepth 100000 in
set_option maxHeartbeats 4000000 in
theorem m_ran (l : Launch) : RMet l 1 160 P_ran Q_ran := by
  refine RMet.by Bran [] roran okBran ct0 ?_ ?_
  · intro As σ hP
    unfold P_ran at hP
    split at hP
    next => exact Nat.le_of_ble_eq_true rfl
    next => exact hP.elim
  · intro As σ hP G hB hW
    unfold P_ran at hP
    split at hP
    next what => 
      unfold Q_ran at hB
      dsimp only at hB
      apply hB
      dsimp only [rgo, rfd, Bran, Nat.beq, rwp, rst, lv_args, rlk, rs1, rs2, rdl, rky, rct, rcs, rcd, rno, rsw, Value.category, List.filter, List.take, List.drop, List.reverse, List.reverseAux, List.cons_append, List.nil_append, Option.toList, Int.toNat, Int.reduceToNat, if_pos, if_neg, reduceIte, ↓reduceIte, Nat.reduceAdd, Nat.reduceEqDiff, Nat.reduceBEq, beq_self_eq_true, Bool.not_true, Bool.not_false, Bool.and_true, Bool.and_false, Bool.true_and, Bool.false_and, gI_sI, gI_sL, gI_sA, gI_sM, gL_sI, gL_sL, gL_sA, gL_sM, aI_sI, aI_sL, aI_sA, aI_sM, aL_sI, aL_sL, aL_sA, aL_sM, Bran_0, Bran_7, Bran_11, Bran_17, Bran_28, Bran_40, Bran_43, Bran_44, Bran_80, Bran_85, Bran_91, Bran_97, Bran_103, Bran_110, Bran_116, Bran_121, Bran_122, oi_10]; try dsimp only
      refine ⟨rfl, fun h1 => ?_, fun h1 => ?_⟩
      · apply hB
        dsimp only [rgo, rfd, Bran, Nat.beq, rwp, rst, lv_args, rlk, rs1, rs2, rdl, rky, rct, rcs, rcd, rno, rsw, Value.category, List.filter, List.take, List.drop, List.reverse, List.reverseAux, List.cons_append, List.nil_append, Option.toList, Int.toNat, Int.reduceToNat, if_pos, if_neg, reduceIte, ↓reduceIte, Nat.reduceAdd, Nat.reduceEqDiff, Nat.reduceBEq, beq_self_eq_true, Bool.not_true, Bool.not_false, Bool.and_true, Bool.and_false, Bool.true_and, Bool.false_and, gI_sI, gI_sL, gI_sA, gI_sM, gL_sI, gL_sL, gL_sA, gL_sM, aI_sI, aI_sL, aI_sA, aI_sM, aL_sI, aL_sL, aL_sA, aL_sM, Bran_0, Bran_7, Bran_11, Bran_17, Bran_28, Bran_40, Bran_43, Bran_44, Bran_80, Bran_85, Bran_91, Bran_97, Bran_103, Bran_110, Bran_116, Bran_121, Bran_122, oi_10]; try dsimp only
        refine ⟨fun h2 => ?_, fun h2 => ?_⟩
        · apply hB
          dsimp only [rgo, rfd, Bran, Nat.beq, rwp, rst, lv_args, rlk, rs1, rs2, rdl, rky, rct, rcs, rcd, rno, rsw, Value.category, List.filter, List.take, List.drop, List.reverse, List.reverseAux, List.cons_append, List.nil_append, Option.toList, Int.toNat, Int.reduceToNat, if_pos, if_neg, reduceIte, ↓reduceIte, Nat.reduceAdd, Nat.reduceEqDiff, Nat.reduceBEq, beq_self_eq_true, Bool.not_true, Bool.not_false, Bool.and_true, Bool.and_false, Bool.true_and, Bool.false_and, gI_sI, gI_sL, gI_sA, gI_sM, gL_sI, gL_sL, gL_sA, gL_sM, aI_sI, aI_sL, aI_sA, aI_sM, aL_sI, aL_sL, aL_sA, aL_sM, Bran_0, Bran_7, Bran_11, Bran_17, Bran_28, Bran_40, Bran_43, Bran_44, Bran_80, Bran_85, Bran_91, Bran_97, Bran_103, Bran_110, Bran_116, Bran_121, Bran_122, oi_10]; try dsimp only
          refine ⟨fun h3 => ?_, fun h3 => ?_⟩
          · apply hB
            dsimp only [rgo, rfd, Bran, Nat.beq, rwp, rst, lv_args, rlk, rs1, rs2, rdl, rky, rct, rcs, rcd, rno, rsw, Value.category, List.filter, List.take, List.drop, List.reverse, List.reverseAux, List.cons_append, List.nil_append, Option.toList, Int.toNat, Int.reduceToNat, if_pos, if_neg, reduceIte, ↓reduceIte, Nat.reduceAdd, Nat.reduceEqDiff, Nat.reduceBEq, beq_self_eq_true, Bool.not_true, Bool.not_false, Bool.and_true, Bool.and_false, Bool.true_and, Bool.false_and, gI_sI, gI_sL, gI_sA, gI_sM, gL_sI, gL_sL, gL_sA, gL_sM, aI_sI, aI_sL, aI_sA, aI_sM, aL_sI, aL_sL, aL_sA, aL_sM, Bran_0, Bran_7, Bran_11, Bran_17, Bran_28, Bran_40, Bran_43, Bran_44, Bran_80, Bran_85, Bran_91, Bran_97, Bran_103, Bran_110, Bran_116, Bran_121, Bran_122, oi_10]; try dsimp only
            refine ⟨rfl, ?_⟩
            exact ⟨_, rfl, rfl⟩
          refine ⟨fun h4 => ?_, fun h4 => ?_⟩
          · apply hB
            dsimp only [rgo, rfd, Bran, Nat.beq, rwp, rst, lv_args, rlk, rs1, rs2, rdl, rky, rct, rcs, rcd, rno, rsw, Value.category, List.filter, List.take, List.drop, List.reverse, List.reverseAux, List.cons_append, List.nil_append, Option.toList, Int.toNat, Int.reduceToNat, if_pos, if_neg, reduceIte, ↓reduceIte, Nat.reduceAdd, Nat.reduceEqDiff, Nat.reduceBEq, beq_self_eq_true, Bool.not_true, Bool.not_false, Bool.and_true, Bool.and_false, Bool.true_and, Bool.false_and, gI_sI, gI_sL, gI_sA, gI_sM, gL_sI, gL_sL, gL_sA, gL_sM, aI_sI, aI_sL, aI_sA, aI_sM, aL_sI, aL_sL, aL_sA, aL_sM, Bran_0, Bran_7, Bran_11, Bran_17, Bran_28, Bran_40, Bran_43, Bran_44, Bran_80, Bran_85, Bran_91, Bran_97, Bran_103, Bran_110, Bran_116, Bran_121, Bran_122, oi_10]; try dsimp only
            refine ⟨rfl, ?_⟩
            exact ⟨_, rfl, rfl⟩
          refine ⟨fun h5 => ?_, fun h5 => ?_⟩
          · apply hB
            dsimp only [rgo, rfd, Bran, Nat.beq, rwp, rst, lv_args, rlk, rs1, rs2, rdl, rky, rct, rcs, rcd, rno, rsw, Value.category, List.filter, List.take, List.drop, List.reverse, List.reverseAux, List.cons_append, List.nil_append, Option.toList, Int.toNat, Int.reduceToNat, if_pos, if_neg, reduceIte, ↓reduceIte, Nat.reduceAdd, Nat.reduceEqDiff, Nat.reduceBEq, beq_self_eq_true, Bool.not_true, Bool.not_false, Bool.and_true, Bool.and_false, Bool.true_and, Bool.false_and, gI_sI, gI_sL, gI_sA, gI_sM, gL_sI, gL_sL, gL_sA, gL_sM, aI_sI, aI_sL, aI_sA, aI_sM, aL_sI, aL_sL, aL_sA, aL_sM, Bran_0, Bran_7, Bran_11, Bran_17, Bran_28, Bran_40, Bran_43, Bran_44, Bran_80, Bran_85, Bran_91, Bran_97, Bran_103, Bran_110, Bran_116, Bran_121, Bran_122, oi_10]; try dsimp only
            refine ⟨rfl, ?_⟩
            exact ⟨_, rfl, rfl⟩
          refine ⟨fun h6 => ?_, fun h6 => ?_⟩
          · apply hB
            dsimp only [rgo, rfd, Bran, Nat.beq, rwp, rst, lv_args, rlk, rs1, rs2, rdl, rky, rct, rcs, rcd, rno, rsw, Value.category, List.filter, List.take, List.drop, List.reverse, List.reverseAux, List.cons_append, List.nil_append, Option.toList, Int.toNat, Int.reduceToNat, if_pos, if_neg, reduceIte, ↓reduceIte, Nat.reduceAdd, Nat.reduceEqDiff, Nat.reduceBEq, beq_self_eq_true, Bool.not_true, Bool.not_false, Bool.and_true, Bool.and_false, Bool.true_and, Bool.false_and, gI_sI, gI_sL, gI_sA, gI_sM, gL_sI, gL_sL, gL_sA, gL_sM, aI_sI, aI_sL, aI_sA, aI_sM, aL_sI, aL_sL, aL_sA, aL_sM, Bran_0, Bran_7, Bran_11, Bran_17, Bran_28, Bran_40, Bran_43, Bran_44, Bran_80, Bran_85, Bran_91, Bran_97, Bran_103, Bran_110, Bran_116, Bran_121, Bran_122, oi_10]; try dsimp only
            refine ⟨rfl, ?_⟩
            exact ⟨_, rfl, rfl⟩
          refine ⟨fun h7 => ?_, fun h7 => ?_⟩
          · apply hB
            dsimp only [rgo, rfd, Bran, Nat.beq, rwp, rst, lv_args, rlk, rs1, rs2, rdl, rky, rct, rcs, rcd, rno, rsw, Value.category, List.filter, List.take, List.drop, List.reverse, List.reverseAux, List.cons_append, List.nil_append, Option.toList, Int.toNat, Int.reduceToNat, if_pos, if_neg, reduceIte, ↓reduceIte, Nat.reduceAdd, Nat.reduceEqDiff, Nat.reduceBEq, beq_self_eq_true, Bool.not_true, Bool.not_false, Bool.and_true, Bool.and_false, Bool.true_and, Bool.false_and, gI_sI, gI_sL, gI_sA, gI_sM, gL_sI, gL_sL, gL_sA, gL_sM, aI_sI, aI_sL, aI_sA, aI_sM, aL_sI, aL_sL, aL_sA, aL_sM, Bran_0, Bran_7, Bran_11, Bran_17, Bran_28, Bran_40, Bran_43, Bran_44, Bran_80, Bran_85, Bran_91, Bran_97, Bran_103, Bran_110, Bran_116, Bran_121, Bran_122, oi_10]; try dsimp only
            refine ⟨rfl, fun h8 => ?_, fun h8 => ?_⟩
            · apply hB
              dsimp only [rgo, rfd, Bran, Nat.beq, rwp, rst, lv_args, rlk, rs1, rs2, rdl, rky, rct, rcs, rcd, rno, rsw, Value.category, List.filter, List.take, List.drop, List.reverse, List.reverseAux, List.cons_append, List.nil_append, Option.toList, Int.toNat, Int.reduceToNat, if_pos, if_neg, reduceIte, ↓reduceIte, Nat.reduceAdd, Nat.reduceEqDiff, Nat.reduceBEq, beq_self_eq_true, Bool.not_true, Bool.not_false, Bool.and_true, Bool.and_false, Bool.true_and, Bool.false_and, gI_sI, gI_sL, gI_sA, gI_sM, gL_sI, gL_sL, gL_sA, gL_sM, aI_sI, aI_sL, aI_sA, aI_sM, aL_sI, aL_sL, aL_sA, aL_sM, Bran_0, Bran_7, Bran_11, Bran_17, Bran_28, Bran_40, Bran_43, Bran_44, Bran_80, Bran_85, Bran_91, Bran_97, Bran_103, Bran_110, Bran_116, Bran_121, Bran_122, oi_10]; try dsimp only
              refine ⟨rfl, ?_⟩
              apply hB
              dsimp only [rgo, rfd, Bran, Nat.beq, rwp, rst, lv_args, rlk, rs1, rs2, rdl, rky, rct, rcs, rcd, rno, rsw, Value.category, List.filter, List.take, List.drop, List.reverse, List.reverseAux, List.cons_append, List.nil_append, Option.toList, Int.toNat, Int.reduceToNat, if_pos, if_neg, reduceIte, ↓reduceIte, Nat.reduceAdd, Nat.reduceEqDiff, Nat.reduceBEq, beq_self_eq_true, Bool.not_true, Bool.not_false, Bool.and_true, Bool.and_false, Bool.true_and, Bool.false_and, gI_sI, gI_sL, gI_sA, gI_sM, gL_sI, gL_sL, gL_sA, gL_sM, aI_sI, aI_sL, aI_sA, aI_sM, aL_sI, aL_sL, aL_sA, aL_sM, Bran_0, Bran_7, Bran_11, Bran_17, Bran_28, Bran_40, Bran_43, Bran_44, Bran_80, Bran_85, Bran_91, Bran_97, Bran_103, Bran_110, Bran_116, Bran_121, Bran_122, oi_10]; try dsimp only
              exact ⟨_, rfl, rfl⟩
            · apply hB
              dsimp only [rgo, rfd, Bran, Nat.beq, rwp, rst, lv_args, rlk, rs1, rs2, rdl, rky, rct, rcs, rcd, rno, rsw, Value.category, List.filter, List.take, List.drop, List.reverse, List.reverseAux, List.cons_append, List.nil_append, Option.toList, Int.toNat, Int.reduceToNat, if_pos, if_neg, reduceIte, ↓reduceIte, Nat.reduceAdd, Nat.reduceEqDiff, Nat.reduceBEq, beq_self_eq_true, Bool.not_true, Bool.not_false, Bool.and_true, Bool.and_false, Bool.true_and, Bool.false_and, gI_sI, gI_sL, gI_sA, gI_sM, gL_sI, gL_sL, gL_sA, gL_sM, aI_sI, aI_sL, aI_sA, aI_sM, aL_sI, aL_sL, aL_sA, aL_sM, Bran_0, Bran_7, Bran_11, Bran_17, Bran_28, Bran_40, Bran_43, Bran_44, Bran_80, Bran_85, Bran_91, Bran_97, Bran_103, Bran_110, Bran_116, Bran_121, Bran_122, oi_10]; try dsimp only
              apply hB
              dsimp only [rgo, rfd, Bran, Nat.beq, rwp, rst, lv_args, rlk, rs1, rs2, rdl, rky, rct, rcs, rcd, rno, rsw, Value.category, List.filter, List.take, List.drop, List.reverse, List.reverseAux, List.cons_append, List.nil_append, Option.toList, Int.toNat, Int.reduceToNat, if_pos, if_neg, reduceIte, ↓reduceIte, Nat.reduceAdd, Nat.reduceEqDiff, Nat.reduceBEq, beq_self_eq_true, Bool.not_true, Bool.not_false, Bool.and_true, Bool.and_false, Bool.true_and, Bool.false_and, gI_sI, gI_sL, gI_sA, gI_sM, gL_sI, gL_sL, gL_sA, gL_sM, aI_sI, aI_sL, aI_sA, aI_sM, aL_sI, aL_sL, aL_sA, aL_sM, Bran_0, Bran_7, Bran_11, Bran_17, Bran_28, Bran_40, Bran_43, Bran_44, Bran_80, Bran_85, Bran_91, Bran_97, Bran_103, Bran_110, Bran_116, Bran_121, Bran_122, oi_10]; try dsimp only
              exact ⟨_, rfl, rfl⟩
          apply hB
          dsimp only [rgo, rfd, Bran, Nat.beq, rwp, rst, lv_args, rlk, rs1, rs2, rdl, rky, rct, rcs, rcd, rno, rsw, Value.category, List.filter, List.take, List.drop, List.reverse, List.reverseAux, List.cons_append, List.nil_append, Option.toList, Int.toNat, Int.reduceToNat, if_pos, if_neg, reduceIte, ↓reduceIte, Nat.reduceAdd, Nat.reduceEqDiff, Nat.reduceBEq, beq_self_eq_true, Bool.not_true, Bool.not_false, Bool.and_true, Bool.and_false, Bool.true_and, Bool.false_and, gI_sI, gI_sL, gI_sA, gI_sM, gL_sI, gL_sL, gL_sA, gL_sM, aI_sI, aI_sL, aI_sA, aI_sM, aL_sI, aL_sL, aL_sA, aL_sM, Bran_0, Bran_7, Bran_11, Bran_17, Bran_28, Bran_40, Bran_43, Bran_44, Bran_80, Bran_85, Bran_91, Bran_97, Bran_103, Bran_110, Bran_116, Bran_121, Bran_122, oi_10]; try dsimp only
          exact ⟨_, rfl, rfl⟩
        · apply hB
          dsimp only [rgo, rfd, Bran, Nat.beq, rwp, rst, lv_args, rlk, rs1, rs2, rdl, rky, rct, rcs, rcd, rno, rsw, Value.category, List.filter, List.take, List.drop, List.reverse, List.reverseAux, List.cons_append, List.nil_append, Option.toList, Int.toNat, Int.reduceToNat, if_pos, if_neg, reduceIte, ↓reduceIte, Nat.reduceAdd, Nat.reduceEqDiff, Nat.reduceBEq, beq_self_eq_true, Bool.not_true, Bool.not_false, Bool.and_true, Bool.and_false, Bool.true_and, Bool.false_and, gI_sI, gI_sL, gI_sA, gI_sM, gL_sI, gL_sL, gL_sA, gL_sM, aI_sI, aI_sL, aI_sA, aI_sM, aL_sI, aL_sL, aL_sA, aL_sM, Bran_0, Bran_7, Bran_11, Bran_17, Bran_28, Bran_40, Bran_43, Bran_44, Bran_80, Bran_85, Bran_91, Bran_97, Bran_103, Bran_110, Bran_116, Bran_121, Bran_122, oi_10]; try dsimp only
          refine ⟨rfl, fun h9 => ?_, fun h9 => ?_⟩
          · apply hB
            dsimp only [rgo, rfd, Bran, Nat.beq, rwp, rst, lv_args, rlk, rs1, rs2, rdl, rky, rct, rcs, rcd, rno, rsw, Value.category, List.filter, List.take, List.drop, List.reverse, List.reverseAux, List.cons_append, List.nil_append, Option.toList, Int.toNat, Int.reduceToNat, if_pos, if_neg, reduceIte, ↓reduceIte, Nat.reduceAdd, Nat.reduceEqDiff, Nat.reduceBEq, beq_self_eq_true, Bool.not_true, Bool.not_false, Bool.and_true, Bool.and_false, Bool.true_and, Bool.false_and, gI_sI, gI_sL, gI_sA, gI_sM, gL_sI, gL_sL, gL_sA, gL_sM, aI_sI, aI_sL, aI_sA, aI_sM, aL_sI, aL_sL, aL_sA, aL_sM, Bran_0, Bran_7, Bran_11, Bran_17, Bran_28, Bran_40, Bran_43, Bran_44, Bran_80, Bran_85, Bran_91, Bran_97, Bran_103, Bran_110, Bran_116, Bran_121, Bran_122, oi_10]; try dsimp only
            apply hB
            dsimp only [rgo, rfd, Bran, Nat.beq, rwp, rst, lv_args, rlk, rs1, rs2, rdl, rky, rct, rcs, rcd, rno, rsw, Value.category, List.filter, List.take, List.drop, List.reverse, List.reverseAux, List.cons_append, List.nil_append, Option.toList, Int.toNat, Int.reduceToNat, if_pos, if_neg, reduceIte, ↓reduceIte, Nat.reduceAdd, Nat.reduceEqDiff, Nat.reduceBEq, beq_self_eq_true, Bool.not_true, Bool.not_false, Bool.and_true, Bool.and_false, Bool.true_and, Bool.false_and, gI_sI, gI_sL, gI_sA, gI_sM, gL_sI, gL_sL, gL_sA, gL_sM, aI_sI, aI_sL, aI_sA, aI_sM, aL_sI, aL_sL, aL_sA, aL_sM, Bran_0, Bran_7, Bran_11, Bran_17, Bran_28, Bran_40, Bran_43, Bran_44, Bran_80, Bran_85, Bran_91, Bran_97, Bran_103, Bran_110, Bran_116, Bran_121, Bran_122, oi_10]; try dsimp only
            exact ⟨_, rfl, rfl⟩
          · apply hB
            dsimp only [rgo, rfd, Bran, Nat.beq, rwp, rst, lv_args, rlk, rs1, rs2, rdl, rky, rct, rcs, rcd, rno, rsw, Value.category, List.filter, List.take, List.drop, List.reverse, List.reverseAux, List.cons_append, List.nil_append, Option.toList, Int.toNat, Int.reduceToNat, if_pos, if_neg, reduceIte, ↓reduceIte, Nat.reduceAdd, Nat.reduceEqDiff, Nat.reduceBEq, beq_self_eq_true, Bool.not_true, Bool.not_false, Bool.and_true, Bool.and_false, Bool.true_and, Bool.false_and, gI_sI, gI_sL, gI_sA, gI_sM, gL_sI, gL_sL, gL_sA, gL_sM, aI_sI, aI_sL, aI_sA, aI_sM, aL_sI, aL_sL, aL_sA, aL_sM, Bran_0, Bran_7, Bran_11, Bran_17, Bran_28, Bran_40, Bran_43, Bran_44, Bran_80, Bran_85, Bran_91, Bran_97, Bran_103, Bran_110, Bran_116, Bran_121, Bran_122, oi_10]; try dsimp only
            refine ⟨rfl, rfl, (in_149 (by lia) (by lia)), ?_⟩
            apply hB
            dsimp only [rgo, rfd, Bran, Nat.beq, rwp, rst, lv_args, rlk, rs1, rs2, rdl, rky, rct, rcs, rcd, rno, rsw, Value.category, List.filter, List.take, List.drop, List.reverse, List.reverseAux, List.cons_append, List.nil_append, Option.toList, Int.toNat, Int.reduceToNat, if_pos, if_neg, reduceIte, ↓reduceIte, Nat.reduceAdd, Nat.reduceEqDiff, Nat.reduceBEq, beq_self_eq_true, Bool.not_true, Bool.not_false, Bool.and_true, Bool.and_false, Bool.true_and, Bool.false_and, gI_sI, gI_sL, gI_sA, gI_sM, gL_sI, gL_sL, gL_sA, gL_sM, aI_sI, aI_sL, aI_sA, aI_sM, aL_sI, aL_sL, aL_sA, aL_sM, Bran_0, Bran_7, Bran_11, Bran_17, Bran_28, Bran_40, Bran_43, Bran_44, Bran_80, Bran_85, Bran_91, Bran_97, Bran_103, Bran_110, Bran_116, Bran_121, Bran_122, oi_10]; try dsimp only
            exact ⟨_, rfl, rfl⟩
      · apply hB
        dsimp only [rgo, rfd, Bran, Nat.beq, rwp, rst, lv_args, rlk, rs1, rs2, rdl, rky, rct, rcs, rcd, rno, rsw, Value.category, List.filter, List.take, List.drop, List.reverse, List.reverseAux, List.cons_append, List.nil_append, Option.toList, Int.toNat, Int.reduceToNat, if_pos, if_neg, reduceIte, ↓reduceIte, Nat.reduceAdd, Nat.reduceEqDiff, Nat.reduceBEq, beq_self_eq_true, Bool.not_true, Bool.not_false, Bool.and_true, Bool.and_false, Bool.true_and, Bool.false_and, gI_sI, gI_sL, gI_sA, gI_sM, gL_sI, gL_sL, gL_sA, gL_sM, aI_sI, aI_sL, aI_sA, aI_sM, aL_sI, aL_sL, aL_sA, aL_sM, Bran_0, Bran_7, Bran_11, Bran_17, Bran_28, Bran_40, Bran_43, Bran_44, Bran_80, Bran_85, Bran_91, Bran_97, Bran_103, Bran_110, Bran_116, Bran_121, Bran_122, oi_10]; try dsimp only
        exact ⟨_, rfl, rfl⟩
    next => exact hP.elim
