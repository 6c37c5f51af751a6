/-! the reference judges calls -/
/-- the params of method m -/
def MpR (σ : RS) (m : Int32) (ps : List Int) : Prop := (if m = 10 then (1 : Int32) else if m = 11 then 0 else aI σ 39 m.toNatClampNeg).toInt = (ps.length : Int) ∧ ∀ i : Int32, 0 ≤ i.toInt → i.toInt < (ps.length : Int) → (if m = 10 then (4 : Int32) else aI σ 44 (aI σ 40 m.toNatClampNeg + i).toNatClampNeg).toInt = ps.getD i.toInt.toNat 0
/-- the arguments' TYPES from place f on -/
def AsR (σ : RS) (f n : Int32) (as : List Int) : Prop := n.toInt = (as.length : Int) ∧ ∀ i : Int32, 0 ≤ i.toInt → i.toInt < (as.length : Int) → (aI σ 70 (f + i).toNatClampNeg).toInt = as.getD i.toInt.toNat 0
theorem tk_iff : ∀ {as ps : List Int}, tkT as ps = true ↔ (as.length = ps.length ∧ ∀ j : Nat, j < as.length → wdT (as.getD j 0) (ps.getD j 0)) := by
  intro as
  induction as with
  | nil =>
    intro ps
    cases ps with
    | nil => exact ⟨fun _ => ⟨rfl, fun j hj => absurd hj (Nat.not_lt_zero _)⟩, fun _ => rfl⟩
    | cons b m => exact ⟨fun q => absurd q (by simp [tkT]), fun q => absurd q.1 (by simp)⟩
  | cons a l ih =>
    intro ps
    cases ps with
    | nil => exact ⟨fun q => absurd q (by simp [tkT]), fun q => absurd q.1 (by simp)⟩
    | cons b m =>
      rw [tkT, Bool.and_eq_true, decide_eq_true_eq, ih]
      constructor
      · intro ⟨q1, q2, q3⟩
        refine ⟨by rw [List.length_cons, List.length_cons, q2], fun j hj => ?_⟩
        cases j with
        | zero => exact q1
        | succ j => exact q3 j (by rw [List.length_cons] at hj; omega)
      · intro ⟨q1, q2⟩
        rw [List.length_cons, List.length_cons] at q1
        exact ⟨q2 0 (by rw [List.length_cons]; omega), by omega, fun j hj => q2 (j + 1) (by rw [List.length_cons]; omega)⟩
theorem i32_1 {v : Int32} {x : Int} (h : v.toInt = x) (h1 : x < 2147483647) (h0 : -2147483648 ≤ x) : (v + 1).toInt = x + 1 := by
  rw [Int32.toInt_add, h]
  exact Int.bmod_eq_of_le (by have : (1 : Int32).toInt = 1 := rfl; omega) (by have : (1 : Int32).toInt = 1 := rfl; omega)
theorem wd_st {P : Prop} {b i : Int32} {as ps : List Int} {k : Nat} (hb : ¬ b = 0 ↔ P) (hP : P ↔ wdT (as.getD k 0) (ps.getD k 0)) (hi : i.toInt = (k : Int)) (h1 : (i + 1).toInt = (k : Int) + 1) (ho : as.length = ps.length ∧ ∀ j : Nat, (j : Int) < i.toInt → wdT (as.getD j 0) (ps.getD j 0)) : ¬ b = 0 ↔ (as.length = ps.length ∧ ∀ j : Nat, (j : Int) < (i + 1).toInt → wdT (as.getD j 0) (ps.getD j 0)) := by
  rw [hb, hP, h1]
  constructor
  · intro q
    refine ⟨ho.1, fun j hj => ?_⟩
    by_cases e : j = k
    · rw [e]; exact q
    · exact ho.2 j (by omega)
  · intro q
    exact q.2 k (by omega)
def Pv_takes : UP1 := fun A1 σ => match A1 with
  | [.int m, .int first, .int n] => True
  | _ => False
def Qv_takes : UQ1 := fun A1 σ w τ => match A1 with
  | [.int m, .int first, .int n] => σ = τ ∧ ∃ b : Int32, w = some (.int b) ∧ ∀ as ps, AsR σ first n as → MpR σ m ps → (¬ b = 0 ↔ tkT as ps = true)
  | _ => False
def Qw_takes : UQ1 := fun A1 σ w τ => Pv_takes A1 σ → Qv_takes A1 σ w τ
set_option maxRecDepth 100000 in
set_option maxHeartbeats 4000000 in
theorem v_takes : UMet 101 (Pv_takes) (Qv_takes) := by
  refine UMet.by Btakes [(84, (fun _ _ => True), Qw_paramsOf), (83, (fun _ _ => True), Qw_typeOfParam), (73, (fun _ _ => True), Qw_widens)] rfl (ucc w_paramsOf (ucc w_typeOfParam (ucc w_widens uc0))) ?_
  intro A1 σ hP K hB hW
  unfold Pv_takes at hP
  split at hP
  next m first n =>
    have loop : ∀ (N : Nat) (al i : Int32), (∀ as ps, AsR σ first n as → MpR σ m ps → 0 ≤ i.toInt ∧ i.toInt ≤ (as.length : Int) ∧ (¬ al = 0 ↔ (as.length = ps.length ∧ ∀ j : Nat, (j : Int) < (i).toInt → wdT (as.getD j 0) (ps.getD j 0)))) → K N 19 [(0, .ref 1000), (1, .int m), (2, .int first), (3, .int n), (4, .int al), (5, .int i)] [] σ := by
      intro N
      induction N using Nat.strongRecOn with
      | ind N loop =>
        intro al i hI
        refine hB _ _ _ _ _ (fun m1 hm1 => ?_)
        dsimp only [ugo, uwp, ust, uct, rfd, Btakes, Btakes_19, Nat.beq, lv_args, rlk, rs1, rs2, rdl, rky, rcd, rno, rsw, Value.category, List.filter, List.take, List.drop, List.reverse, List.reverseAux, List.cons_append, List.nil_append, Option.toList, Int.toNat, Int.reduceToNat, if_pos, if_neg, reduceIte, ↓reduceIte, Nat.reduceAdd, Nat.reduceEqDiff, Nat.reduceBEq, beq_self_eq_true, Bool.not_true, Bool.not_false, Bool.and_true, Bool.and_false, Bool.true_and, Bool.false_and, gI_sI, gI_sL, gI_sA, gI_sM, gL_sI, gL_sL, gL_sA, gL_sM, aI_sI, aI_sL, aI_sA, aI_sM, aL_sI, aL_sL, aL_sA, aL_sM]; try dsimp only
        refine ⟨fun h2 => ?_, fun h2 => ?_⟩
        · refine hB _ _ _ _ _ (fun m3 hm3 => ?_)
          dsimp only [ugo, uwp, ust, uct, rfd, Btakes, Btakes_58, Nat.beq, lv_args, rlk, rs1, rs2, rdl, rky, rcd, rno, rsw, Value.category, List.filter, List.take, List.drop, List.reverse, List.reverseAux, List.cons_append, List.nil_append, Option.toList, Int.toNat, Int.reduceToNat, if_pos, if_neg, reduceIte, ↓reduceIte, Nat.reduceAdd, Nat.reduceEqDiff, Nat.reduceBEq, beq_self_eq_true, Bool.not_true, Bool.not_false, Bool.and_true, Bool.and_false, Bool.true_and, Bool.false_and, gI_sI, gI_sL, gI_sA, gI_sM, gL_sI, gL_sL, gL_sA, gL_sM, aI_sI, aI_sL, aI_sA, aI_sM, aL_sI, aL_sL, aL_sA, aL_sM]; try dsimp only
          unfold Qv_takes
          try dsimp only
          refine ⟨rfl, al, rfl, fun as ps hA hM => ?_⟩
          obtain ⟨i0, i1, i2⟩ := hI as ps hA hM
          rw [i2, tk_iff]
          have e1 := hA.1
          have ge : n.toInt ≤ i.toInt := Int32.le_iff_toInt_le.mp (by lia)
          exact ⟨fun q => ⟨q.1, fun j hj => q.2 j (by omega)⟩, fun q => ⟨q.1, fun j hj => q.2 j (by omega)⟩⟩
        · refine hB _ _ _ _ _ (fun m4 hm4 => ?_)
          dsimp only [ugo, uwp, ust, uct, rfd, Btakes, Btakes_25, Nat.beq, lv_args, rlk, rs1, rs2, rdl, rky, rcd, rno, rsw, Value.category, List.filter, List.take, List.drop, List.reverse, List.reverseAux, List.cons_append, List.nil_append, Option.toList, Int.toNat, Int.reduceToNat, if_pos, if_neg, reduceIte, ↓reduceIte, Nat.reduceAdd, Nat.reduceEqDiff, Nat.reduceBEq, beq_self_eq_true, Bool.not_true, Bool.not_false, Bool.and_true, Bool.and_false, Bool.true_and, Bool.false_and, gI_sI, gI_sL, gI_sA, gI_sM, gL_sI, gL_sL, gL_sA, gL_sM, aI_sI, aI_sL, aI_sA, aI_sM, aL_sI, aL_sL, aL_sA, aL_sM]; try dsimp only
          refine ⟨fun h5 => ?_, fun h5 => ?_⟩
          · refine hB _ _ _ _ _ (fun m6 hm6 => ?_)
            dsimp only [ugo, uwp, ust, uct, rfd, Btakes, Btakes_58, Nat.beq, lv_args, rlk, rs1, rs2, rdl, rky, rcd, rno, rsw, Value.category, List.filter, List.take, List.drop, List.reverse, List.reverseAux, List.cons_append, List.nil_append, Option.toList, Int.toNat, Int.reduceToNat, if_pos, if_neg, reduceIte, ↓reduceIte, Nat.reduceAdd, Nat.reduceEqDiff, Nat.reduceBEq, beq_self_eq_true, Bool.not_true, Bool.not_false, Bool.and_true, Bool.and_false, Bool.true_and, Bool.false_and, gI_sI, gI_sL, gI_sA, gI_sM, gL_sI, gL_sL, gL_sA, gL_sM, aI_sI, aI_sL, aI_sA, aI_sM, aL_sI, aL_sL, aL_sA, aL_sM]; try dsimp only
            unfold Qv_takes
            try dsimp only
            refine ⟨rfl, al, rfl, fun as ps hA hM => ?_⟩
            obtain ⟨i0, i1, i2⟩ := hI as ps hA hM
            rw [i2, tk_iff]
            have e1 := hA.1
            have no := fun q => (i2.mpr q) (by assumption)
            exact ⟨fun q => absurd q no, fun q => absurd (show as.length = ps.length ∧ ∀ j : Nat, (j : Int) < i.toInt → _ from ⟨q.1, fun j hj => q.2 j (by omega)⟩) no⟩
          · refine hB _ _ _ _ _ (fun m7 hm7 => ?_)
            dsimp only [ugo, uwp, ust, uct, rfd, Btakes, Btakes_30, Nat.beq, lv_args, rlk, rs1, rs2, rdl, rky, rcd, rno, rsw, Value.category, List.filter, List.take, List.drop, List.reverse, List.reverseAux, List.cons_append, List.nil_append, Option.toList, Int.toNat, Int.reduceToNat, if_pos, if_neg, reduceIte, ↓reduceIte, Nat.reduceAdd, Nat.reduceEqDiff, Nat.reduceBEq, beq_self_eq_true, Bool.not_true, Bool.not_false, Bool.and_true, Bool.and_false, Bool.true_and, Bool.false_and, gI_sI, gI_sL, gI_sA, gI_sM, gL_sI, gL_sL, gL_sA, gL_sM, aI_sI, aI_sL, aI_sA, aI_sM, aL_sI, aL_sL, aL_sA, aL_sM, oi_1]; try dsimp only
            intro p8
            refine ⟨trivial, fun w9 τ9 hq9 => ?_⟩
            obtain ⟨rfl, r9, rfl, hr9⟩ := hq9 trivial
            dsimp only [Option.toList, List.cons_append, List.nil_append, Nat.beq, gI_sI, gI_sL, gI_sA, gI_sM, gL_sI, gL_sL, gL_sA, gL_sM, aI_sI, aI_sL, aI_sA, aI_sM, aL_sI, aL_sL, aL_sA, aL_sM]
            refine ⟨trivial, fun w10 τ10 hq10 => ?_⟩
            obtain ⟨rfl, b10, rfl, hb10⟩ := hq10 trivial
            try rw [show (((aI σ 70) ((first + i)).toNatClampNeg)).toInt = (((aI σ 70) ((first + i)).toNatClampNeg)).toInt from (rfl : (((aI σ 70) ((first + i)).toNatClampNeg)).toInt = (((aI σ 70) ((first + i)).toNatClampNeg)).toInt)] at hb10
            try rw [show (r9).toInt = (r9).toInt from (rfl : (r9).toInt = (r9).toInt)] at hb10
            have hb10 : ¬ b10 = 0 ↔ wdT ((((aI σ 70) ((first + i)).toNatClampNeg)).toInt) ((r9).toInt) := hb10
            dsimp only [Option.toList, List.cons_append, List.nil_append, Nat.beq, gI_sI, gI_sL, gI_sA, gI_sM, gL_sI, gL_sL, gL_sA, gL_sM, aI_sI, aI_sL, aI_sA, aI_sM, aL_sI, aL_sL, aL_sA, aL_sM]
            refine hW _ 19 [(0, .ref 1000), (1, .int m), (2, .int first), (3, .int n), (4, .int b10), (5, .int (i + 1))] _ _ _ (by simp [rdl, rky, Value.category]) (loop _ (by omega) b10 (i + 1) (fun as ps hA hM => ?_))
            obtain ⟨i0, i1, i2⟩ := hI as ps hA hM
            have e1 := hA.1
            have lt : i.toInt < n.toInt := Int32.lt_iff_toInt_lt.mp (by lia)
            have ii := i32_1 (v := i) rfl (by have := n.toInt_lt; omega) (by omega)
            have ho := i2.mp (by assumption)
            refine ⟨by omega, by omega, wd_st (k := i.toInt.toNat) hb10 ?_ (by omega) (by omega) ho⟩
            rw [hA.2 i i0 (by omega), hr9, hM.2 i i0 (by omega)]
    intro n0
    refine hB _ _ _ _ _ (fun m1 hm1 => ?_)
    dsimp only [ugo, uwp, ust, uct, rfd, Btakes, Btakes_0, Nat.beq, lv_args, rlk, rs1, rs2, rdl, rky, rcd, rno, rsw, Value.category, List.filter, List.take, List.drop, List.reverse, List.reverseAux, List.cons_append, List.nil_append, Option.toList, Int.toNat, Int.reduceToNat, if_pos, if_neg, reduceIte, ↓reduceIte, Nat.reduceAdd, Nat.reduceEqDiff, Nat.reduceBEq, beq_self_eq_true, Bool.not_true, Bool.not_false, Bool.and_true, Bool.and_false, Bool.true_and, Bool.false_and, gI_sI, gI_sL, gI_sA, gI_sM, gL_sI, gL_sL, gL_sA, gL_sM, aI_sI, aI_sL, aI_sA, aI_sM, aL_sI, aL_sL, aL_sA, aL_sM]; try dsimp only
    refine ⟨trivial, fun w2 τ2 hq2 => ?_⟩
    obtain ⟨rfl, r2, rfl, hr2⟩ := hq2 trivial
    dsimp only [Option.toList, List.cons_append, List.nil_append, Nat.beq, gI_sI, gI_sL, gI_sA, gI_sM, gL_sI, gL_sL, gL_sA, gL_sM, aI_sI, aI_sL, aI_sA, aI_sM, aL_sI, aL_sL, aL_sA, aL_sM]
    refine ⟨fun h3 => ?_, fun h3 => ?_⟩
    · refine hB _ _ _ _ _ (fun m4 hm4 => ?_)
      dsimp only [ugo, uwp, ust, uct, rfd, Btakes, Btakes_13, Nat.beq, lv_args, rlk, rs1, rs2, rdl, rky, rcd, rno, rsw, Value.category, List.filter, List.take, List.drop, List.reverse, List.reverseAux, List.cons_append, List.nil_append, Option.toList, Int.toNat, Int.reduceToNat, if_pos, if_neg, reduceIte, ↓reduceIte, Nat.reduceAdd, Nat.reduceEqDiff, Nat.reduceBEq, beq_self_eq_true, Bool.not_true, Bool.not_false, Bool.and_true, Bool.and_false, Bool.true_and, Bool.false_and, gI_sI, gI_sL, gI_sA, gI_sM, gL_sI, gL_sL, gL_sA, gL_sM, aI_sI, aI_sL, aI_sA, aI_sM, aL_sI, aL_sL, aL_sA, aL_sM, oi_0]; try dsimp only
      refine hB _ _ _ _ _ (fun m5 hm5 => ?_)
      dsimp only [ugo, uwp, ust, uct, rfd, Btakes, Btakes_14, Nat.beq, lv_args, rlk, rs1, rs2, rdl, rky, rcd, rno, rsw, Value.category, List.filter, List.take, List.drop, List.reverse, List.reverseAux, List.cons_append, List.nil_append, Option.toList, Int.toNat, Int.reduceToNat, if_pos, if_neg, reduceIte, ↓reduceIte, Nat.reduceAdd, Nat.reduceEqDiff, Nat.reduceBEq, beq_self_eq_true, Bool.not_true, Bool.not_false, Bool.and_true, Bool.and_false, Bool.true_and, Bool.false_and, gI_sI, gI_sL, gI_sA, gI_sM, gL_sI, gL_sL, gL_sA, gL_sM, aI_sI, aI_sL, aI_sA, aI_sM, aL_sI, aL_sL, aL_sA, aL_sM, oi_0]; try dsimp only
      refine hW _ 19 [(0, .ref 1000), (1, .int m), (2, .int first), (3, .int n), (4, .int 0), (5, .int 0)] _ _ _ (by simp [rdl, rky, Value.category]) (loop _ 0 0 (fun as ps hA hM => ⟨Int.le_refl _, by show (0 : Int) ≤ _; omega, ?_⟩))
      have e1 := hM.1
      rw [← hr2] at e1
      have e2 := hA.1
      have e3 := (cI (rfl : r2.toInt = r2.toInt) (rfl : n.toInt = n.toInt)).1
      exact b00 (fun q => by have e4 : ¬ r2.toInt = n.toInt := fun z => absurd (e3.mpr z) (by assumption); have := q.1; omega)
    · refine hB _ _ _ _ _ (fun m6 hm6 => ?_)
      dsimp only [ugo, uwp, ust, uct, rfd, Btakes, Btakes_9, Nat.beq, lv_args, rlk, rs1, rs2, rdl, rky, rcd, rno, rsw, Value.category, List.filter, List.take, List.drop, List.reverse, List.reverseAux, List.cons_append, List.nil_append, Option.toList, Int.toNat, Int.reduceToNat, if_pos, if_neg, reduceIte, ↓reduceIte, Nat.reduceAdd, Nat.reduceEqDiff, Nat.reduceBEq, beq_self_eq_true, Bool.not_true, Bool.not_false, Bool.and_true, Bool.and_false, Bool.true_and, Bool.false_and, gI_sI, gI_sL, gI_sA, gI_sM, gL_sI, gL_sL, gL_sA, gL_sM, aI_sI, aI_sL, aI_sA, aI_sM, aL_sI, aL_sL, aL_sA, aL_sM, oi_1]; try dsimp only
      refine hB _ _ _ _ _ (fun m7 hm7 => ?_)
      dsimp only [ugo, uwp, ust, uct, rfd, Btakes, Btakes_14, Nat.beq, lv_args, rlk, rs1, rs2, rdl, rky, rcd, rno, rsw, Value.category, List.filter, List.take, List.drop, List.reverse, List.reverseAux, List.cons_append, List.nil_append, Option.toList, Int.toNat, Int.reduceToNat, if_pos, if_neg, reduceIte, ↓reduceIte, Nat.reduceAdd, Nat.reduceEqDiff, Nat.reduceBEq, beq_self_eq_true, Bool.not_true, Bool.not_false, Bool.and_true, Bool.and_false, Bool.true_and, Bool.false_and, gI_sI, gI_sL, gI_sA, gI_sM, gL_sI, gL_sL, gL_sA, gL_sM, aI_sI, aI_sL, aI_sA, aI_sM, aL_sI, aL_sL, aL_sA, aL_sM, oi_0]; try dsimp only
      refine hW _ 19 [(0, .ref 1000), (1, .int m), (2, .int first), (3, .int n), (4, .int 1), (5, .int 0)] _ _ _ (by simp [rdl, rky, Value.category]) (loop _ 1 0 (fun as ps hA hM => ⟨Int.le_refl _, by show (0 : Int) ≤ _; omega, ?_⟩))
      have e1 := hM.1
      rw [← hr2] at e1
      have e2 := hA.1
      have e3 := (cI (rfl : r2.toInt = r2.toInt) (rfl : n.toInt = n.toInt)).1
      have e4 := e3.mp (by assumption)
      exact b01 ⟨by omega, fun j hj => absurd hj (by show ¬ (j : Int) < 0; omega)⟩
  next => exact hP.elim
theorem w_takes : UMet 101 (fun _ _ => True) Qw_takes := fun A1 σ _ w τ h hP => v_takes A1 σ hP w τ h
def Pv_isCloser : UP1 := fun A1 σ => match A1 with
  | [.int m, .int o] => True
  | _ => False
def Qv_isCloser : UQ1 := fun A1 σ w τ => match A1 with
  | [.int m, .int o] => σ = τ ∧ ∃ b : Int32, w = some (.int b) ∧ ∀ as ps, MpR σ m as → MpR σ o ps → as.length = ps.length → (¬ b = 0 ↔ tkT as ps = true)
  | _ => False
def Qw_isCloser : UQ1 := fun A1 σ w τ => Pv_isCloser A1 σ → Qv_isCloser A1 σ w τ
set_option maxRecDepth 100000 in
set_option maxHeartbeats 4000000 in
theorem v_isCloser : UMet 102 (Pv_isCloser) (Qv_isCloser) := by
  refine UMet.by BisCloser [(84, (fun _ _ => True), Qw_paramsOf), (83, (fun _ _ => True), Qw_typeOfParam), (73, (fun _ _ => True), Qw_widens)] rfl (ucc w_paramsOf (ucc w_typeOfParam (ucc w_widens uc0))) ?_
  intro A1 σ hP K hB hW
  unfold Pv_isCloser at hP
  split at hP
  next m o =>
    have loop : ∀ (N : Nat) (al i : Int32), (∀ as ps, MpR σ m as → MpR σ o ps → as.length = ps.length → 0 ≤ i.toInt ∧ i.toInt ≤ (as.length : Int) ∧ (¬ al = 0 ↔ (as.length = ps.length ∧ ∀ j : Nat, (j : Int) < (i).toInt → wdT (as.getD j 0) (ps.getD j 0)))) → K N 5 [(0, .ref 1000), (1, .int m), (2, .int o), (3, .int al), (4, .int i)] [] σ := by
      intro N
      induction N using Nat.strongRecOn with
      | ind N loop =>
        intro al i hI
        refine hB _ _ _ _ _ (fun m1 hm1 => ?_)
        dsimp only [ugo, uwp, ust, uct, rfd, BisCloser, BisCloser_5, Nat.beq, lv_args, rlk, rs1, rs2, rdl, rky, rcd, rno, rsw, Value.category, List.filter, List.take, List.drop, List.reverse, List.reverseAux, List.cons_append, List.nil_append, Option.toList, Int.toNat, Int.reduceToNat, if_pos, if_neg, reduceIte, ↓reduceIte, Nat.reduceAdd, Nat.reduceEqDiff, Nat.reduceBEq, beq_self_eq_true, Bool.not_true, Bool.not_false, Bool.and_true, Bool.and_false, Bool.true_and, Bool.false_and, gI_sI, gI_sL, gI_sA, gI_sM, gL_sI, gL_sL, gL_sA, gL_sM, aI_sI, aI_sL, aI_sA, aI_sM, aL_sI, aL_sL, aL_sA, aL_sM]; try dsimp only
        refine ⟨trivial, fun w2 τ2 hq2 => ?_⟩
        obtain ⟨rfl, r2, rfl, hr2⟩ := hq2 trivial
        dsimp only [Option.toList, List.cons_append, List.nil_append, Nat.beq, gI_sI, gI_sL, gI_sA, gI_sM, gL_sI, gL_sL, gL_sA, gL_sM, aI_sI, aI_sL, aI_sA, aI_sM, aL_sI, aL_sL, aL_sA, aL_sM]
        refine ⟨fun h3 => ?_, fun h3 => ?_⟩
        · refine hB _ _ _ _ _ (fun m4 hm4 => ?_)
          dsimp only [ugo, uwp, ust, uct, rfd, BisCloser, BisCloser_52, Nat.beq, lv_args, rlk, rs1, rs2, rdl, rky, rcd, rno, rsw, Value.category, List.filter, List.take, List.drop, List.reverse, List.reverseAux, List.cons_append, List.nil_append, Option.toList, Int.toNat, Int.reduceToNat, if_pos, if_neg, reduceIte, ↓reduceIte, Nat.reduceAdd, Nat.reduceEqDiff, Nat.reduceBEq, beq_self_eq_true, Bool.not_true, Bool.not_false, Bool.and_true, Bool.and_false, Bool.true_and, Bool.false_and, gI_sI, gI_sL, gI_sA, gI_sM, gL_sI, gL_sL, gL_sA, gL_sM, aI_sI, aI_sL, aI_sA, aI_sM, aL_sI, aL_sL, aL_sA, aL_sM]; try dsimp only
          unfold Qv_isCloser
          try dsimp only
          refine ⟨rfl, al, rfl, fun as ps hA hM hl => ?_⟩
          obtain ⟨i0, i1, i2⟩ := hI as ps hA hM hl
          rw [i2, tk_iff]
          have e1 := hA.1
          rw [← hr2] at e1
          have ge : r2.toInt ≤ i.toInt := Int32.le_iff_toInt_le.mp (by lia)
          exact ⟨fun q => ⟨q.1, fun j hj => q.2 j (by omega)⟩, fun q => ⟨q.1, fun j hj => q.2 j (by omega)⟩⟩
        · refine hB _ _ _ _ _ (fun m5 hm5 => ?_)
          dsimp only [ugo, uwp, ust, uct, rfd, BisCloser, BisCloser_15, Nat.beq, lv_args, rlk, rs1, rs2, rdl, rky, rcd, rno, rsw, Value.category, List.filter, List.take, List.drop, List.reverse, List.reverseAux, List.cons_append, List.nil_append, Option.toList, Int.toNat, Int.reduceToNat, if_pos, if_neg, reduceIte, ↓reduceIte, Nat.reduceAdd, Nat.reduceEqDiff, Nat.reduceBEq, beq_self_eq_true, Bool.not_true, Bool.not_false, Bool.and_true, Bool.and_false, Bool.true_and, Bool.false_and, gI_sI, gI_sL, gI_sA, gI_sM, gL_sI, gL_sL, gL_sA, gL_sM, aI_sI, aI_sL, aI_sA, aI_sM, aL_sI, aL_sL, aL_sA, aL_sM]; try dsimp only
          refine ⟨fun h6 => ?_, fun h6 => ?_⟩
          · refine hB _ _ _ _ _ (fun m7 hm7 => ?_)
            dsimp only [ugo, uwp, ust, uct, rfd, BisCloser, BisCloser_44, Nat.beq, lv_args, rlk, rs1, rs2, rdl, rky, rcd, rno, rsw, Value.category, List.filter, List.take, List.drop, List.reverse, List.reverseAux, List.cons_append, List.nil_append, Option.toList, Int.toNat, Int.reduceToNat, if_pos, if_neg, reduceIte, ↓reduceIte, Nat.reduceAdd, Nat.reduceEqDiff, Nat.reduceBEq, beq_self_eq_true, Bool.not_true, Bool.not_false, Bool.and_true, Bool.and_false, Bool.true_and, Bool.false_and, gI_sI, gI_sL, gI_sA, gI_sM, gL_sI, gL_sL, gL_sA, gL_sM, aI_sI, aI_sL, aI_sA, aI_sM, aL_sI, aL_sL, aL_sA, aL_sM, oi_0]; try dsimp only
            refine hB _ _ _ _ _ (fun m8 hm8 => ?_)
            dsimp only [ugo, uwp, ust, uct, rfd, BisCloser, BisCloser_45, Nat.beq, lv_args, rlk, rs1, rs2, rdl, rky, rcd, rno, rsw, Value.category, List.filter, List.take, List.drop, List.reverse, List.reverseAux, List.cons_append, List.nil_append, Option.toList, Int.toNat, Int.reduceToNat, if_pos, if_neg, reduceIte, ↓reduceIte, Nat.reduceAdd, Nat.reduceEqDiff, Nat.reduceBEq, beq_self_eq_true, Bool.not_true, Bool.not_false, Bool.and_true, Bool.and_false, Bool.true_and, Bool.false_and, gI_sI, gI_sL, gI_sA, gI_sM, gL_sI, gL_sL, gL_sA, gL_sM, aI_sI, aI_sL, aI_sA, aI_sM, aL_sI, aL_sL, aL_sA, aL_sM, oi_1]; try dsimp only
            refine hW _ 5 [(0, .ref 1000), (1, .int m), (2, .int o), (3, .int 0), (4, .int (i + 1))] _ _ _ (by simp [rdl, rky, Value.category]) (loop _ (by omega) 0 (i + 1) (fun as ps hA hM hl => ?_))
            obtain ⟨i0, i1, i2⟩ := hI as ps hA hM hl
            have e1 := hA.1
            rw [← hr2] at e1
            have lt : i.toInt < r2.toInt := Int32.lt_iff_toInt_lt.mp (by lia)
            have ii := i32_1 (v := i) rfl (by have := r2.toInt_lt; omega) (by omega)
            refine ⟨by omega, by omega, b00 (fun q => ?_)⟩
            exact (i2.mpr ⟨q.1, fun j hj => q.2 j (by omega)⟩) (by assumption)
          · refine hB _ _ _ _ _ (fun m9 hm9 => ?_)
            dsimp only [ugo, uwp, ust, uct, rfd, BisCloser, BisCloser_19, Nat.beq, lv_args, rlk, rs1, rs2, rdl, rky, rcd, rno, rsw, Value.category, List.filter, List.take, List.drop, List.reverse, List.reverseAux, List.cons_append, List.nil_append, Option.toList, Int.toNat, Int.reduceToNat, if_pos, if_neg, reduceIte, ↓reduceIte, Nat.reduceAdd, Nat.reduceEqDiff, Nat.reduceBEq, beq_self_eq_true, Bool.not_true, Bool.not_false, Bool.and_true, Bool.and_false, Bool.true_and, Bool.false_and, gI_sI, gI_sL, gI_sA, gI_sM, gL_sI, gL_sL, gL_sA, gL_sM, aI_sI, aI_sL, aI_sA, aI_sM, aL_sI, aL_sL, aL_sA, aL_sM]; try dsimp only
            refine ⟨trivial, fun w10 τ10 hq10 => ?_⟩
            obtain ⟨rfl, r10, rfl, hr10⟩ := hq10 trivial
            dsimp only [Option.toList, List.cons_append, List.nil_append, Nat.beq, gI_sI, gI_sL, gI_sA, gI_sM, gL_sI, gL_sL, gL_sA, gL_sM, aI_sI, aI_sL, aI_sA, aI_sM, aL_sI, aL_sL, aL_sA, aL_sM]
            refine ⟨trivial, fun w11 τ11 hq11 => ?_⟩
            obtain ⟨rfl, r11, rfl, hr11⟩ := hq11 trivial
            dsimp only [Option.toList, List.cons_append, List.nil_append, Nat.beq, gI_sI, gI_sL, gI_sA, gI_sM, gL_sI, gL_sL, gL_sA, gL_sM, aI_sI, aI_sL, aI_sA, aI_sM, aL_sI, aL_sL, aL_sA, aL_sM]
            refine ⟨trivial, fun w12 τ12 hq12 => ?_⟩
            obtain ⟨rfl, b12, rfl, hb12⟩ := hq12 trivial
            try rw [show (r10).toInt = (r10).toInt from (rfl : (r10).toInt = (r10).toInt)] at hb12
            try rw [show (r11).toInt = (r11).toInt from (rfl : (r11).toInt = (r11).toInt)] at hb12
            have hb12 : ¬ b12 = 0 ↔ wdT ((r10).toInt) ((r11).toInt) := hb12
            dsimp only [Option.toList, List.cons_append, List.nil_append, Nat.beq, gI_sI, gI_sL, gI_sA, gI_sM, gL_sI, gL_sL, gL_sA, gL_sM, aI_sI, aI_sL, aI_sA, aI_sM, aL_sI, aL_sL, aL_sA, aL_sM]
            refine ⟨fun h13 => ?_, fun h13 => ?_⟩
            · have c13 : ¬ (wdT ((r10).toInt) ((r11).toInt)) := fun q => (hb12).mpr q h13
              refine hB _ _ _ _ _ (fun m14 hm14 => ?_)
              dsimp only [ugo, uwp, ust, uct, rfd, BisCloser, BisCloser_44, Nat.beq, lv_args, rlk, rs1, rs2, rdl, rky, rcd, rno, rsw, Value.category, List.filter, List.take, List.drop, List.reverse, List.reverseAux, List.cons_append, List.nil_append, Option.toList, Int.toNat, Int.reduceToNat, if_pos, if_neg, reduceIte, ↓reduceIte, Nat.reduceAdd, Nat.reduceEqDiff, Nat.reduceBEq, beq_self_eq_true, Bool.not_true, Bool.not_false, Bool.and_true, Bool.and_false, Bool.true_and, Bool.false_and, gI_sI, gI_sL, gI_sA, gI_sM, gL_sI, gL_sL, gL_sA, gL_sM, aI_sI, aI_sL, aI_sA, aI_sM, aL_sI, aL_sL, aL_sA, aL_sM, oi_0]; try dsimp only
              refine hB _ _ _ _ _ (fun m15 hm15 => ?_)
              dsimp only [ugo, uwp, ust, uct, rfd, BisCloser, BisCloser_45, Nat.beq, lv_args, rlk, rs1, rs2, rdl, rky, rcd, rno, rsw, Value.category, List.filter, List.take, List.drop, List.reverse, List.reverseAux, List.cons_append, List.nil_append, Option.toList, Int.toNat, Int.reduceToNat, if_pos, if_neg, reduceIte, ↓reduceIte, Nat.reduceAdd, Nat.reduceEqDiff, Nat.reduceBEq, beq_self_eq_true, Bool.not_true, Bool.not_false, Bool.and_true, Bool.and_false, Bool.true_and, Bool.false_and, gI_sI, gI_sL, gI_sA, gI_sM, gL_sI, gL_sL, gL_sA, gL_sM, aI_sI, aI_sL, aI_sA, aI_sM, aL_sI, aL_sL, aL_sA, aL_sM, oi_1]; try dsimp only
              refine hW _ 5 [(0, .ref 1000), (1, .int m), (2, .int o), (3, .int 0), (4, .int (i + 1))] _ _ _ (by simp [rdl, rky, Value.category]) (loop _ (by omega) 0 (i + 1) (fun as ps hA hM hl => ?_))
              obtain ⟨i0, i1, i2⟩ := hI as ps hA hM hl
              have e1 := hA.1
              rw [← hr2] at e1
              have lt : i.toInt < r2.toInt := Int32.lt_iff_toInt_lt.mp (by lia)
              have ii := i32_1 (v := i) rfl (by have := r2.toInt_lt; omega) (by omega)
              have ho := i2.mp (by assumption)
              have hw := wd_st (b := b12) (k := i.toInt.toNat) (as := as) (ps := ps) hb12 (by rw [hr10, hA.2 i i0 (by omega), hr11, hM.2 i i0 (by omega)]) (by omega) (by omega) ho
              refine ⟨by omega, by omega, ?_⟩
              exact b00 (fun q => absurd (hw.mpr q) (by lia))
            · have c13 : wdT ((r10).toInt) ((r11).toInt) := (hb12).mp h13
              refine hB _ _ _ _ _ (fun m16 hm16 => ?_)
              dsimp only [ugo, uwp, ust, uct, rfd, BisCloser, BisCloser_40, Nat.beq, lv_args, rlk, rs1, rs2, rdl, rky, rcd, rno, rsw, Value.category, List.filter, List.take, List.drop, List.reverse, List.reverseAux, List.cons_append, List.nil_append, Option.toList, Int.toNat, Int.reduceToNat, if_pos, if_neg, reduceIte, ↓reduceIte, Nat.reduceAdd, Nat.reduceEqDiff, Nat.reduceBEq, beq_self_eq_true, Bool.not_true, Bool.not_false, Bool.and_true, Bool.and_false, Bool.true_and, Bool.false_and, gI_sI, gI_sL, gI_sA, gI_sM, gL_sI, gL_sL, gL_sA, gL_sM, aI_sI, aI_sL, aI_sA, aI_sM, aL_sI, aL_sL, aL_sA, aL_sM, oi_1]; try dsimp only
              refine hB _ _ _ _ _ (fun m17 hm17 => ?_)
              dsimp only [ugo, uwp, ust, uct, rfd, BisCloser, BisCloser_45, Nat.beq, lv_args, rlk, rs1, rs2, rdl, rky, rcd, rno, rsw, Value.category, List.filter, List.take, List.drop, List.reverse, List.reverseAux, List.cons_append, List.nil_append, Option.toList, Int.toNat, Int.reduceToNat, if_pos, if_neg, reduceIte, ↓reduceIte, Nat.reduceAdd, Nat.reduceEqDiff, Nat.reduceBEq, beq_self_eq_true, Bool.not_true, Bool.not_false, Bool.and_true, Bool.and_false, Bool.true_and, Bool.false_and, gI_sI, gI_sL, gI_sA, gI_sM, gL_sI, gL_sL, gL_sA, gL_sM, aI_sI, aI_sL, aI_sA, aI_sM, aL_sI, aL_sL, aL_sA, aL_sM, oi_1]; try dsimp only
              refine hW _ 5 [(0, .ref 1000), (1, .int m), (2, .int o), (3, .int 1), (4, .int (i + 1))] _ _ _ (by simp [rdl, rky, Value.category]) (loop _ (by omega) 1 (i + 1) (fun as ps hA hM hl => ?_))
              obtain ⟨i0, i1, i2⟩ := hI as ps hA hM hl
              have e1 := hA.1
              rw [← hr2] at e1
              have lt : i.toInt < r2.toInt := Int32.lt_iff_toInt_lt.mp (by lia)
              have ii := i32_1 (v := i) rfl (by have := r2.toInt_lt; omega) (by omega)
              have ho := i2.mp (by assumption)
              have hw := wd_st (b := b12) (k := i.toInt.toNat) (as := as) (ps := ps) hb12 (by rw [hr10, hA.2 i i0 (by omega), hr11, hM.2 i i0 (by omega)]) (by omega) (by omega) ho
              refine ⟨by omega, by omega, ?_⟩
              exact b01 (hw.mp (by assumption))
    intro n0
    refine hB _ _ _ _ _ (fun m1 hm1 => ?_)
    dsimp only [ugo, uwp, ust, uct, rfd, BisCloser, BisCloser_0, Nat.beq, lv_args, rlk, rs1, rs2, rdl, rky, rcd, rno, rsw, Value.category, List.filter, List.take, List.drop, List.reverse, List.reverseAux, List.cons_append, List.nil_append, Option.toList, Int.toNat, Int.reduceToNat, if_pos, if_neg, reduceIte, ↓reduceIte, Nat.reduceAdd, Nat.reduceEqDiff, Nat.reduceBEq, beq_self_eq_true, Bool.not_true, Bool.not_false, Bool.and_true, Bool.and_false, Bool.true_and, Bool.false_and, gI_sI, gI_sL, gI_sA, gI_sM, gL_sI, gL_sL, gL_sA, gL_sM, aI_sI, aI_sL, aI_sA, aI_sM, aL_sI, aL_sL, aL_sA, aL_sM, oi_0, oi_1]; try dsimp only
    exact hW _ 5 [(0, .ref 1000), (1, .int m), (2, .int o), (3, .int 1), (4, .int 0)] _ _ _ (by simp [rdl, rky, Value.category]) (loop _ 1 0 (fun as ps hA hM hl => ⟨Int.le_refl _, by show (0 : Int) ≤ _; omega, b01 ⟨hl, fun j hj => absurd hj (by show ¬ (j : Int) < 0; omega)⟩⟩))
  next => exact hP.elim
theorem w_isCloser : UMet 102 (fun _ _ => True) Qw_isCloser := fun A1 σ _ w τ h hP => v_isCloser A1 σ hP w τ h
