theorem nT_lt2 {x y : Int32} {j : Nat} (h : y ≤ x) (hj : j < nT y) : j < nT x := by
  by_cases q : 0 ≤ y
  · exact Nat.lt_of_lt_of_le hj (nT_le q h)
  · have : nT y = 0 := by
      have z := Int32.lt_iff_toInt_lt.mp (Int32.not_le.mp q)
      have z : y.toInt < 0 := z
      show y.toInt.toNat = 0
      omega
    omega
def Pv_isTold (σ0 : RS) (s : SpC) (n : Nat) : UP1 := fun A1 σ => match A1 with
  | [] => XrR σ0 σ s n
  | _ => False
def Qv_isTold (σ0 : RS) (s : SpC) (n : Nat) : UQ1 := fun A1 σ w τ => match A1 with
  | [] => σ = τ ∧ ((w = some (.int 1) ∧ (codY s = 71 ∨ (50 ≤ codY s ∧ codY s ≤ 54))) ∨ (w = some (.int 0) ∧ ¬ (codY s = 71 ∨ (50 ≤ codY s ∧ codY s ≤ 54))))
  | _ => False
def Qw_isTold : UQ1 := fun A1 σ w τ => ∀ (σ0 : RS) (s : SpC) (n : Nat), Pv_isTold σ0 s n A1 σ → Qv_isTold σ0 s n A1 σ w τ
set_option maxRecDepth 100000 in
set_option maxHeartbeats 4000000 in
theorem v_isTold (σ0 : RS) (s : SpC) (n : Nat) : UMet 46 (Pv_isTold σ0 s n) (Qv_isTold σ0 s n) := by
  refine UMet.by BisTold [(23, (fun _ _ => True), Qw_isType), (15, (fun _ _ => True), Qw_isWord)] rfl (ucc w_isType (ucc w_isWord uc0)) ?_
  intro A1 σ hP K hB hW
  unfold Pv_isTold at hP
  split at hP
  next =>
    intro n0_
    refine hB _ _ _ _ _ (fun m1 hm1 => ?_)
    dsimp only [ugo, uwp, ust, uct, rfd, BisTold, Nat.beq, lv_args, rlk, rs1, rs2, rdl, rky, rcd, rno, rsw, Value.category, List.filter, List.take, List.drop, List.reverse, List.reverseAux, List.cons_append, List.nil_append, Option.toList, Int.toNat, Int.reduceToNat, if_pos, if_neg, reduceIte, ↓reduceIte, Nat.reduceAdd, Nat.reduceEqDiff, Nat.reduceBEq, beq_self_eq_true, Bool.not_true, Bool.not_false, Bool.and_true, Bool.and_false, Bool.true_and, Bool.false_and, gI_sI, gI_sL, gI_sA, gI_sM, gL_sI, gL_sL, gL_sA, gL_sM, aI_sI, aI_sL, aI_sA, aI_sM, aL_sI, aL_sL, aL_sA, aL_sM, BisTold_0, BisTold_9, BisTold_20, BisTold_24, BisTold_25, oi_0, oi_1, oi_21]; try dsimp only
    refine ⟨trivial, fun w2 τ2 hq2 => ?_⟩
    obtain ⟨rfl, b2, rfl, hb2⟩ := hq2 trivial
    have he2 := (XrR.s (by repeat (first | exact hP | refine XrR.i ?_ (by decide) | refine XrR.up ?_ (by omega) | refine XrR.a ?_ (by decide)))).wd (x := 21) (by decide)
    rcases hb2 with ⟨rfl, hk2⟩ | ⟨rfl, hk2⟩
    · dsimp only [Option.toList, List.cons_append, List.nil_append, Nat.beq, gI_sI, gI_sL, gI_sA, gI_sM, gL_sI, gL_sL, gL_sA, gL_sM, aI_sI, aI_sL, aI_sA, aI_sM, aL_sI, aL_sL, aL_sA, aL_sM]
      have hc2 : codY s = 71 := he2.mp hk2
      refine ⟨fun h3 => ?_, fun h3 => absurd h3 (by decide)⟩
      clear h3
      refine hB _ _ _ _ _ (fun m4 hm4 => ?_)
      dsimp only [ugo, uwp, ust, uct, rfd, BisTold, Nat.beq, lv_args, rlk, rs1, rs2, rdl, rky, rcd, rno, rsw, Value.category, List.filter, List.take, List.drop, List.reverse, List.reverseAux, List.cons_append, List.nil_append, Option.toList, Int.toNat, Int.reduceToNat, if_pos, if_neg, reduceIte, ↓reduceIte, Nat.reduceAdd, Nat.reduceEqDiff, Nat.reduceBEq, beq_self_eq_true, Bool.not_true, Bool.not_false, Bool.and_true, Bool.and_false, Bool.true_and, Bool.false_and, gI_sI, gI_sL, gI_sA, gI_sM, gL_sI, gL_sL, gL_sA, gL_sM, aI_sI, aI_sL, aI_sA, aI_sM, aL_sI, aL_sL, aL_sA, aL_sM, BisTold_0, BisTold_9, BisTold_20, BisTold_24, BisTold_25, oi_0, oi_1, oi_21]; try dsimp only
      refine hB _ _ _ _ _ (fun m5 hm5 => ?_)
      dsimp only [ugo, uwp, ust, uct, rfd, BisTold, Nat.beq, lv_args, rlk, rs1, rs2, rdl, rky, rcd, rno, rsw, Value.category, List.filter, List.take, List.drop, List.reverse, List.reverseAux, List.cons_append, List.nil_append, Option.toList, Int.toNat, Int.reduceToNat, if_pos, if_neg, reduceIte, ↓reduceIte, Nat.reduceAdd, Nat.reduceEqDiff, Nat.reduceBEq, beq_self_eq_true, Bool.not_true, Bool.not_false, Bool.and_true, Bool.and_false, Bool.true_and, Bool.false_and, gI_sI, gI_sL, gI_sA, gI_sM, gL_sI, gL_sL, gL_sA, gL_sM, aI_sI, aI_sL, aI_sA, aI_sM, aL_sI, aL_sL, aL_sA, aL_sM, BisTold_0, BisTold_9, BisTold_20, BisTold_24, BisTold_25, oi_0, oi_1, oi_21]; try dsimp only
      unfold Qv_isTold
      try dsimp only
      exact ⟨rfl, Or.inl ⟨rfl, by omega⟩⟩
    · dsimp only [Option.toList, List.cons_append, List.nil_append, Nat.beq, gI_sI, gI_sL, gI_sA, gI_sM, gL_sI, gL_sL, gL_sA, gL_sM, aI_sI, aI_sL, aI_sA, aI_sM, aL_sI, aL_sL, aL_sA, aL_sM]
      have hc2 : ¬ codY s = 71 := fun q => hk2 (he2.mpr q)
      refine ⟨fun h6 => absurd h6 (by decide), fun h6 => ?_⟩
      clear h6
      refine hB _ _ _ _ _ (fun m7 hm7 => ?_)
      dsimp only [ugo, uwp, ust, uct, rfd, BisTold, Nat.beq, lv_args, rlk, rs1, rs2, rdl, rky, rcd, rno, rsw, Value.category, List.filter, List.take, List.drop, List.reverse, List.reverseAux, List.cons_append, List.nil_append, Option.toList, Int.toNat, Int.reduceToNat, if_pos, if_neg, reduceIte, ↓reduceIte, Nat.reduceAdd, Nat.reduceEqDiff, Nat.reduceBEq, beq_self_eq_true, Bool.not_true, Bool.not_false, Bool.and_true, Bool.and_false, Bool.true_and, Bool.false_and, gI_sI, gI_sL, gI_sA, gI_sM, gL_sI, gL_sL, gL_sA, gL_sM, aI_sI, aI_sL, aI_sA, aI_sM, aL_sI, aL_sL, aL_sA, aL_sM, BisTold_0, BisTold_9, BisTold_20, BisTold_24, BisTold_25, oi_0, oi_1, oi_21]; try dsimp only
      refine ⟨trivial, fun w8 τ8 hq8 => ?_⟩
      obtain ⟨rfl, b8, rfl, hb8⟩ := hq8 trivial
      have he8 := (XrR.s (by repeat (first | exact hP | refine XrR.i ?_ (by decide) | refine XrR.up ?_ (by omega) | refine XrR.a ?_ (by decide)))).ty
      rcases hb8 with ⟨rfl, hk8⟩ | ⟨rfl, hk8⟩
      · dsimp only [Option.toList, List.cons_append, List.nil_append, Nat.beq, gI_sI, gI_sL, gI_sA, gI_sM, gL_sI, gL_sL, gL_sA, gL_sM, aI_sI, aI_sL, aI_sA, aI_sM, aL_sI, aL_sL, aL_sA, aL_sM]
        have hc8 : 50 ≤ codY s ∧ codY s ≤ 54 := he8.mp hk8
        refine ⟨fun h9 => absurd h9 (by decide), fun h9 => ?_⟩
        clear h9
        refine hB _ _ _ _ _ (fun m10 hm10 => ?_)
        dsimp only [ugo, uwp, ust, uct, rfd, BisTold, Nat.beq, lv_args, rlk, rs1, rs2, rdl, rky, rcd, rno, rsw, Value.category, List.filter, List.take, List.drop, List.reverse, List.reverseAux, List.cons_append, List.nil_append, Option.toList, Int.toNat, Int.reduceToNat, if_pos, if_neg, reduceIte, ↓reduceIte, Nat.reduceAdd, Nat.reduceEqDiff, Nat.reduceBEq, beq_self_eq_true, Bool.not_true, Bool.not_false, Bool.and_true, Bool.and_false, Bool.true_and, Bool.false_and, gI_sI, gI_sL, gI_sA, gI_sM, gL_sI, gL_sL, gL_sA, gL_sM, aI_sI, aI_sL, aI_sA, aI_sM, aL_sI, aL_sL, aL_sA, aL_sM, BisTold_0, BisTold_9, BisTold_20, BisTold_24, BisTold_25, oi_0, oi_1, oi_21]; try dsimp only
        refine hB _ _ _ _ _ (fun m11 hm11 => ?_)
        dsimp only [ugo, uwp, ust, uct, rfd, BisTold, Nat.beq, lv_args, rlk, rs1, rs2, rdl, rky, rcd, rno, rsw, Value.category, List.filter, List.take, List.drop, List.reverse, List.reverseAux, List.cons_append, List.nil_append, Option.toList, Int.toNat, Int.reduceToNat, if_pos, if_neg, reduceIte, ↓reduceIte, Nat.reduceAdd, Nat.reduceEqDiff, Nat.reduceBEq, beq_self_eq_true, Bool.not_true, Bool.not_false, Bool.and_true, Bool.and_false, Bool.true_and, Bool.false_and, gI_sI, gI_sL, gI_sA, gI_sM, gL_sI, gL_sL, gL_sA, gL_sM, aI_sI, aI_sL, aI_sA, aI_sM, aL_sI, aL_sL, aL_sA, aL_sM, BisTold_0, BisTold_9, BisTold_20, BisTold_24, BisTold_25, oi_0, oi_1, oi_21]; try dsimp only
        unfold Qv_isTold
        try dsimp only
        exact ⟨rfl, Or.inl ⟨rfl, by omega⟩⟩
      · dsimp only [Option.toList, List.cons_append, List.nil_append, Nat.beq, gI_sI, gI_sL, gI_sA, gI_sM, gL_sI, gL_sL, gL_sA, gL_sM, aI_sI, aI_sL, aI_sA, aI_sM, aL_sI, aL_sL, aL_sA, aL_sM]
        have hc8 : ¬ (50 ≤ codY s ∧ codY s ≤ 54) := fun q => hk8 (he8.mpr q)
        refine ⟨fun h12 => ?_, fun h12 => absurd h12 (by decide)⟩
        clear h12
        refine hB _ _ _ _ _ (fun m13 hm13 => ?_)
        dsimp only [ugo, uwp, ust, uct, rfd, BisTold, Nat.beq, lv_args, rlk, rs1, rs2, rdl, rky, rcd, rno, rsw, Value.category, List.filter, List.take, List.drop, List.reverse, List.reverseAux, List.cons_append, List.nil_append, Option.toList, Int.toNat, Int.reduceToNat, if_pos, if_neg, reduceIte, ↓reduceIte, Nat.reduceAdd, Nat.reduceEqDiff, Nat.reduceBEq, beq_self_eq_true, Bool.not_true, Bool.not_false, Bool.and_true, Bool.and_false, Bool.true_and, Bool.false_and, gI_sI, gI_sL, gI_sA, gI_sM, gL_sI, gL_sL, gL_sA, gL_sM, aI_sI, aI_sL, aI_sA, aI_sM, aL_sI, aL_sL, aL_sA, aL_sM, BisTold_0, BisTold_9, BisTold_20, BisTold_24, BisTold_25, oi_0, oi_1, oi_21]; try dsimp only
        refine hB _ _ _ _ _ (fun m14 hm14 => ?_)
        dsimp only [ugo, uwp, ust, uct, rfd, BisTold, Nat.beq, lv_args, rlk, rs1, rs2, rdl, rky, rcd, rno, rsw, Value.category, List.filter, List.take, List.drop, List.reverse, List.reverseAux, List.cons_append, List.nil_append, Option.toList, Int.toNat, Int.reduceToNat, if_pos, if_neg, reduceIte, ↓reduceIte, Nat.reduceAdd, Nat.reduceEqDiff, Nat.reduceBEq, beq_self_eq_true, Bool.not_true, Bool.not_false, Bool.and_true, Bool.and_false, Bool.true_and, Bool.false_and, gI_sI, gI_sL, gI_sA, gI_sM, gL_sI, gL_sL, gL_sA, gL_sM, aI_sI, aI_sL, aI_sA, aI_sM, aL_sI, aL_sL, aL_sA, aL_sM, BisTold_0, BisTold_9, BisTold_20, BisTold_24, BisTold_25, oi_0, oi_1, oi_21]; try dsimp only
        unfold Qv_isTold
        try dsimp only
        exact ⟨rfl, Or.inr ⟨rfl, by omega⟩⟩
  next => exact hP.elim
theorem w_isTold : UMet 46 (fun _ _ => True) Qw_isTold := fun A1 σ _ w τ h σ0 s n hP => v_isTold σ0 s n A1 σ hP w τ h
def Pv_isRow : UP1 := fun A1 σ => match A1 with
  | [.int x] => True
  | _ => False
def Qv_isRow : UQ1 := fun A1 σ w τ => match A1 with
  | [.int x] => σ = τ ∧ ((w = some (.int 1) ∧ (x = 0 ∨ x = 1 ∨ 9 ≤ x)) ∨ (w = some (.int 0) ∧ ¬ (x = 0 ∨ x = 1 ∨ 9 ≤ x)))
  | _ => False
def Qw_isRow : UQ1 := fun A1 σ w τ => Pv_isRow A1 σ → Qv_isRow A1 σ w τ
set_option maxRecDepth 100000 in
set_option maxHeartbeats 4000000 in
theorem v_isRow : UMet 43 (Pv_isRow) (Qv_isRow) := by
  refine UMet.by BisRow [] rfl uc0 ?_
  intro A1 σ hP K hB hW
  unfold Pv_isRow at hP
  split at hP
  next x =>
    intro n0_
    refine hB _ _ _ _ _ (fun m1 hm1 => ?_)
    dsimp only [ugo, uwp, ust, uct, rfd, BisRow, Nat.beq, lv_args, rlk, rs1, rs2, rdl, rky, rcd, rno, rsw, Value.category, List.filter, List.take, List.drop, List.reverse, List.reverseAux, List.cons_append, List.nil_append, Option.toList, Int.toNat, Int.reduceToNat, if_pos, if_neg, reduceIte, ↓reduceIte, Nat.reduceAdd, Nat.reduceEqDiff, Nat.reduceBEq, beq_self_eq_true, Bool.not_true, Bool.not_false, Bool.and_true, Bool.and_false, Bool.true_and, Bool.false_and, gI_sI, gI_sL, gI_sA, gI_sM, gL_sI, gL_sL, gL_sA, gL_sM, aI_sI, aI_sL, aI_sA, aI_sM, aL_sI, aL_sL, aL_sA, aL_sM, BisRow_0, BisRow_4, BisRow_9, BisRow_15, BisRow_19, BisRow_20, oi_0, oi_1, oi_9]; try dsimp only
    refine ⟨fun h2 => ?_, fun h2 => ?_⟩
    · refine hB _ _ _ _ _ (fun m3 hm3 => ?_)
      dsimp only [ugo, uwp, ust, uct, rfd, BisRow, Nat.beq, lv_args, rlk, rs1, rs2, rdl, rky, rcd, rno, rsw, Value.category, List.filter, List.take, List.drop, List.reverse, List.reverseAux, List.cons_append, List.nil_append, Option.toList, Int.toNat, Int.reduceToNat, if_pos, if_neg, reduceIte, ↓reduceIte, Nat.reduceAdd, Nat.reduceEqDiff, Nat.reduceBEq, beq_self_eq_true, Bool.not_true, Bool.not_false, Bool.and_true, Bool.and_false, Bool.true_and, Bool.false_and, gI_sI, gI_sL, gI_sA, gI_sM, gL_sI, gL_sL, gL_sA, gL_sM, aI_sI, aI_sL, aI_sA, aI_sM, aL_sI, aL_sL, aL_sA, aL_sM, BisRow_0, BisRow_4, BisRow_9, BisRow_15, BisRow_19, BisRow_20, oi_0, oi_1, oi_9]; try dsimp only
      refine hB _ _ _ _ _ (fun m4 hm4 => ?_)
      dsimp only [ugo, uwp, ust, uct, rfd, BisRow, Nat.beq, lv_args, rlk, rs1, rs2, rdl, rky, rcd, rno, rsw, Value.category, List.filter, List.take, List.drop, List.reverse, List.reverseAux, List.cons_append, List.nil_append, Option.toList, Int.toNat, Int.reduceToNat, if_pos, if_neg, reduceIte, ↓reduceIte, Nat.reduceAdd, Nat.reduceEqDiff, Nat.reduceBEq, beq_self_eq_true, Bool.not_true, Bool.not_false, Bool.and_true, Bool.and_false, Bool.true_and, Bool.false_and, gI_sI, gI_sL, gI_sA, gI_sM, gL_sI, gL_sL, gL_sA, gL_sM, aI_sI, aI_sL, aI_sA, aI_sM, aL_sI, aL_sL, aL_sA, aL_sM, BisRow_0, BisRow_4, BisRow_9, BisRow_15, BisRow_19, BisRow_20, oi_0, oi_1, oi_9]; try dsimp only
      unfold Qv_isRow
      try dsimp only
      exact ⟨rfl, Or.inl ⟨rfl, by lia⟩⟩
    · refine hB _ _ _ _ _ (fun m5 hm5 => ?_)
      dsimp only [ugo, uwp, ust, uct, rfd, BisRow, Nat.beq, lv_args, rlk, rs1, rs2, rdl, rky, rcd, rno, rsw, Value.category, List.filter, List.take, List.drop, List.reverse, List.reverseAux, List.cons_append, List.nil_append, Option.toList, Int.toNat, Int.reduceToNat, if_pos, if_neg, reduceIte, ↓reduceIte, Nat.reduceAdd, Nat.reduceEqDiff, Nat.reduceBEq, beq_self_eq_true, Bool.not_true, Bool.not_false, Bool.and_true, Bool.and_false, Bool.true_and, Bool.false_and, gI_sI, gI_sL, gI_sA, gI_sM, gL_sI, gL_sL, gL_sA, gL_sM, aI_sI, aI_sL, aI_sA, aI_sM, aL_sI, aL_sL, aL_sA, aL_sM, BisRow_0, BisRow_4, BisRow_9, BisRow_15, BisRow_19, BisRow_20, oi_0, oi_1, oi_9]; try dsimp only
      refine ⟨fun h6 => ?_, fun h6 => ?_⟩
      · refine hB _ _ _ _ _ (fun m7 hm7 => ?_)
        dsimp only [ugo, uwp, ust, uct, rfd, BisRow, Nat.beq, lv_args, rlk, rs1, rs2, rdl, rky, rcd, rno, rsw, Value.category, List.filter, List.take, List.drop, List.reverse, List.reverseAux, List.cons_append, List.nil_append, Option.toList, Int.toNat, Int.reduceToNat, if_pos, if_neg, reduceIte, ↓reduceIte, Nat.reduceAdd, Nat.reduceEqDiff, Nat.reduceBEq, beq_self_eq_true, Bool.not_true, Bool.not_false, Bool.and_true, Bool.and_false, Bool.true_and, Bool.false_and, gI_sI, gI_sL, gI_sA, gI_sM, gL_sI, gL_sL, gL_sA, gL_sM, aI_sI, aI_sL, aI_sA, aI_sM, aL_sI, aL_sL, aL_sA, aL_sM, BisRow_0, BisRow_4, BisRow_9, BisRow_15, BisRow_19, BisRow_20, oi_0, oi_1, oi_9]; try dsimp only
        refine hB _ _ _ _ _ (fun m8 hm8 => ?_)
        dsimp only [ugo, uwp, ust, uct, rfd, BisRow, Nat.beq, lv_args, rlk, rs1, rs2, rdl, rky, rcd, rno, rsw, Value.category, List.filter, List.take, List.drop, List.reverse, List.reverseAux, List.cons_append, List.nil_append, Option.toList, Int.toNat, Int.reduceToNat, if_pos, if_neg, reduceIte, ↓reduceIte, Nat.reduceAdd, Nat.reduceEqDiff, Nat.reduceBEq, beq_self_eq_true, Bool.not_true, Bool.not_false, Bool.and_true, Bool.and_false, Bool.true_and, Bool.false_and, gI_sI, gI_sL, gI_sA, gI_sM, gL_sI, gL_sL, gL_sA, gL_sM, aI_sI, aI_sL, aI_sA, aI_sM, aL_sI, aL_sL, aL_sA, aL_sM, BisRow_0, BisRow_4, BisRow_9, BisRow_15, BisRow_19, BisRow_20, oi_0, oi_1, oi_9]; try dsimp only
        unfold Qv_isRow
        try dsimp only
        exact ⟨rfl, Or.inl ⟨rfl, by lia⟩⟩
      · refine hB _ _ _ _ _ (fun m9 hm9 => ?_)
        dsimp only [ugo, uwp, ust, uct, rfd, BisRow, Nat.beq, lv_args, rlk, rs1, rs2, rdl, rky, rcd, rno, rsw, Value.category, List.filter, List.take, List.drop, List.reverse, List.reverseAux, List.cons_append, List.nil_append, Option.toList, Int.toNat, Int.reduceToNat, if_pos, if_neg, reduceIte, ↓reduceIte, Nat.reduceAdd, Nat.reduceEqDiff, Nat.reduceBEq, beq_self_eq_true, Bool.not_true, Bool.not_false, Bool.and_true, Bool.and_false, Bool.true_and, Bool.false_and, gI_sI, gI_sL, gI_sA, gI_sM, gL_sI, gL_sL, gL_sA, gL_sM, aI_sI, aI_sL, aI_sA, aI_sM, aL_sI, aL_sL, aL_sA, aL_sM, BisRow_0, BisRow_4, BisRow_9, BisRow_15, BisRow_19, BisRow_20, oi_0, oi_1, oi_9]; try dsimp only
        refine ⟨fun h10 => ?_, fun h10 => ?_⟩
        · refine hB _ _ _ _ _ (fun m11 hm11 => ?_)
          dsimp only [ugo, uwp, ust, uct, rfd, BisRow, Nat.beq, lv_args, rlk, rs1, rs2, rdl, rky, rcd, rno, rsw, Value.category, List.filter, List.take, List.drop, List.reverse, List.reverseAux, List.cons_append, List.nil_append, Option.toList, Int.toNat, Int.reduceToNat, if_pos, if_neg, reduceIte, ↓reduceIte, Nat.reduceAdd, Nat.reduceEqDiff, Nat.reduceBEq, beq_self_eq_true, Bool.not_true, Bool.not_false, Bool.and_true, Bool.and_false, Bool.true_and, Bool.false_and, gI_sI, gI_sL, gI_sA, gI_sM, gL_sI, gL_sL, gL_sA, gL_sM, aI_sI, aI_sL, aI_sA, aI_sM, aL_sI, aL_sL, aL_sA, aL_sM, BisRow_0, BisRow_4, BisRow_9, BisRow_15, BisRow_19, BisRow_20, oi_0, oi_1, oi_9]; try dsimp only
          refine hB _ _ _ _ _ (fun m12 hm12 => ?_)
          dsimp only [ugo, uwp, ust, uct, rfd, BisRow, Nat.beq, lv_args, rlk, rs1, rs2, rdl, rky, rcd, rno, rsw, Value.category, List.filter, List.take, List.drop, List.reverse, List.reverseAux, List.cons_append, List.nil_append, Option.toList, Int.toNat, Int.reduceToNat, if_pos, if_neg, reduceIte, ↓reduceIte, Nat.reduceAdd, Nat.reduceEqDiff, Nat.reduceBEq, beq_self_eq_true, Bool.not_true, Bool.not_false, Bool.and_true, Bool.and_false, Bool.true_and, Bool.false_and, gI_sI, gI_sL, gI_sA, gI_sM, gL_sI, gL_sL, gL_sA, gL_sM, aI_sI, aI_sL, aI_sA, aI_sM, aL_sI, aL_sL, aL_sA, aL_sM, BisRow_0, BisRow_4, BisRow_9, BisRow_15, BisRow_19, BisRow_20, oi_0, oi_1, oi_9]; try dsimp only
          unfold Qv_isRow
          try dsimp only
          exact ⟨rfl, Or.inr ⟨rfl, by intro q; rcases q with q | q | q <;> lia⟩⟩
        · refine hB _ _ _ _ _ (fun m13 hm13 => ?_)
          dsimp only [ugo, uwp, ust, uct, rfd, BisRow, Nat.beq, lv_args, rlk, rs1, rs2, rdl, rky, rcd, rno, rsw, Value.category, List.filter, List.take, List.drop, List.reverse, List.reverseAux, List.cons_append, List.nil_append, Option.toList, Int.toNat, Int.reduceToNat, if_pos, if_neg, reduceIte, ↓reduceIte, Nat.reduceAdd, Nat.reduceEqDiff, Nat.reduceBEq, beq_self_eq_true, Bool.not_true, Bool.not_false, Bool.and_true, Bool.and_false, Bool.true_and, Bool.false_and, gI_sI, gI_sL, gI_sA, gI_sM, gL_sI, gL_sL, gL_sA, gL_sM, aI_sI, aI_sL, aI_sA, aI_sM, aL_sI, aL_sL, aL_sA, aL_sM, BisRow_0, BisRow_4, BisRow_9, BisRow_15, BisRow_19, BisRow_20, oi_0, oi_1, oi_9]; try dsimp only
          refine hB _ _ _ _ _ (fun m14 hm14 => ?_)
          dsimp only [ugo, uwp, ust, uct, rfd, BisRow, Nat.beq, lv_args, rlk, rs1, rs2, rdl, rky, rcd, rno, rsw, Value.category, List.filter, List.take, List.drop, List.reverse, List.reverseAux, List.cons_append, List.nil_append, Option.toList, Int.toNat, Int.reduceToNat, if_pos, if_neg, reduceIte, ↓reduceIte, Nat.reduceAdd, Nat.reduceEqDiff, Nat.reduceBEq, beq_self_eq_true, Bool.not_true, Bool.not_false, Bool.and_true, Bool.and_false, Bool.true_and, Bool.false_and, gI_sI, gI_sL, gI_sA, gI_sM, gL_sI, gL_sL, gL_sA, gL_sM, aI_sI, aI_sL, aI_sA, aI_sM, aL_sI, aL_sL, aL_sA, aL_sM, BisRow_0, BisRow_4, BisRow_9, BisRow_15, BisRow_19, BisRow_20, oi_0, oi_1, oi_9]; try dsimp only
          unfold Qv_isRow
          try dsimp only
          exact ⟨rfl, Or.inl ⟨rfl, by lia⟩⟩
  next => exact hP.elim
theorem w_isRow : UMet 43 (fun _ _ => True) Qw_isRow := fun A1 σ _ w τ h hP => v_isRow A1 σ hP w τ h
def Pv_isSignAt : UP1 := fun A1 σ => match A1 with
  | [.int t, .int x] => True
  | _ => False
def Qv_isSignAt : UQ1 := fun A1 σ w τ => match A1 with
  | [.int t, .int x] => σ = τ ∧ ((w = some (.int 1) ∧ t < gI σ 2 ∧ 0 ≤ t ∧ aI σ 3 t.toNatClampNeg = 5 ∧ aI σ 6 t.toNatClampNeg = x) ∨ (w = some (.int 0) ∧ ¬ (t < gI σ 2 ∧ aI σ 3 t.toNatClampNeg = 5 ∧ aI σ 6 t.toNatClampNeg = x)))
  | _ => False
def Qw_isSignAt : UQ1 := fun A1 σ w τ => Pv_isSignAt A1 σ → Qv_isSignAt A1 σ w τ
set_option maxRecDepth 100000 in
set_option maxHeartbeats 4000000 in
theorem v_isSignAt : UMet 16 (Pv_isSignAt) (Qv_isSignAt) := by
  refine UMet.by BisSignAt [] rfl uc0 ?_
  intro A1 σ hP K hB hW
  unfold Pv_isSignAt at hP
  split at hP
  next t x =>
    intro n0_
    refine hB _ _ _ _ _ (fun m1 hm1 => ?_)
    dsimp only [ugo, uwp, ust, uct, rfd, BisSignAt, Nat.beq, lv_args, rlk, rs1, rs2, rdl, rky, rcd, rno, rsw, Value.category, List.filter, List.take, List.drop, List.reverse, List.reverseAux, List.cons_append, List.nil_append, Option.toList, Int.toNat, Int.reduceToNat, if_pos, if_neg, reduceIte, ↓reduceIte, Nat.reduceAdd, Nat.reduceEqDiff, Nat.reduceBEq, beq_self_eq_true, Bool.not_true, Bool.not_false, Bool.and_true, Bool.and_false, Bool.true_and, Bool.false_and, gI_sI, gI_sL, gI_sA, gI_sM, gL_sI, gL_sL, gL_sA, gL_sM, aI_sI, aI_sL, aI_sA, aI_sM, aL_sI, aL_sL, aL_sA, aL_sM, BisSignAt_0, BisSignAt_8, BisSignAt_18, BisSignAt_28, BisSignAt_32, BisSignAt_33, oi_0, oi_1, oi_5]; try dsimp only
    refine ⟨fun h2 => ?_, fun h2 => ?_⟩
    · refine hB _ _ _ _ _ (fun m3 hm3 => ?_)
      dsimp only [ugo, uwp, ust, uct, rfd, BisSignAt, Nat.beq, lv_args, rlk, rs1, rs2, rdl, rky, rcd, rno, rsw, Value.category, List.filter, List.take, List.drop, List.reverse, List.reverseAux, List.cons_append, List.nil_append, Option.toList, Int.toNat, Int.reduceToNat, if_pos, if_neg, reduceIte, ↓reduceIte, Nat.reduceAdd, Nat.reduceEqDiff, Nat.reduceBEq, beq_self_eq_true, Bool.not_true, Bool.not_false, Bool.and_true, Bool.and_false, Bool.true_and, Bool.false_and, gI_sI, gI_sL, gI_sA, gI_sM, gL_sI, gL_sL, gL_sA, gL_sM, aI_sI, aI_sL, aI_sA, aI_sM, aL_sI, aL_sL, aL_sA, aL_sM, BisSignAt_0, BisSignAt_8, BisSignAt_18, BisSignAt_28, BisSignAt_32, BisSignAt_33, oi_0, oi_1, oi_5]; try dsimp only
      refine hB _ _ _ _ _ (fun m4 hm4 => ?_)
      dsimp only [ugo, uwp, ust, uct, rfd, BisSignAt, Nat.beq, lv_args, rlk, rs1, rs2, rdl, rky, rcd, rno, rsw, Value.category, List.filter, List.take, List.drop, List.reverse, List.reverseAux, List.cons_append, List.nil_append, Option.toList, Int.toNat, Int.reduceToNat, if_pos, if_neg, reduceIte, ↓reduceIte, Nat.reduceAdd, Nat.reduceEqDiff, Nat.reduceBEq, beq_self_eq_true, Bool.not_true, Bool.not_false, Bool.and_true, Bool.and_false, Bool.true_and, Bool.false_and, gI_sI, gI_sL, gI_sA, gI_sM, gL_sI, gL_sL, gL_sA, gL_sM, aI_sI, aI_sL, aI_sA, aI_sM, aL_sI, aL_sL, aL_sA, aL_sM, BisSignAt_0, BisSignAt_8, BisSignAt_18, BisSignAt_28, BisSignAt_32, BisSignAt_33, oi_0, oi_1, oi_5]; try dsimp only
      unfold Qv_isSignAt
      try dsimp only
      exact ⟨rfl, Or.inr ⟨rfl, by rintro ⟨q1, q2, q3⟩; lia⟩⟩
    · refine hB _ _ _ _ _ (fun m5 hm5 => ?_)
      dsimp only [ugo, uwp, ust, uct, rfd, BisSignAt, Nat.beq, lv_args, rlk, rs1, rs2, rdl, rky, rcd, rno, rsw, Value.category, List.filter, List.take, List.drop, List.reverse, List.reverseAux, List.cons_append, List.nil_append, Option.toList, Int.toNat, Int.reduceToNat, if_pos, if_neg, reduceIte, ↓reduceIte, Nat.reduceAdd, Nat.reduceEqDiff, Nat.reduceBEq, beq_self_eq_true, Bool.not_true, Bool.not_false, Bool.and_true, Bool.and_false, Bool.true_and, Bool.false_and, gI_sI, gI_sL, gI_sA, gI_sM, gL_sI, gL_sL, gL_sA, gL_sM, aI_sI, aI_sL, aI_sA, aI_sM, aL_sI, aL_sL, aL_sA, aL_sM, BisSignAt_0, BisSignAt_8, BisSignAt_18, BisSignAt_28, BisSignAt_32, BisSignAt_33, oi_0, oi_1, oi_5]; try dsimp only
      intro p6
      refine ⟨fun h7 => ?_, fun h7 => ?_⟩
      · refine hB _ _ _ _ _ (fun m8 hm8 => ?_)
        dsimp only [ugo, uwp, ust, uct, rfd, BisSignAt, Nat.beq, lv_args, rlk, rs1, rs2, rdl, rky, rcd, rno, rsw, Value.category, List.filter, List.take, List.drop, List.reverse, List.reverseAux, List.cons_append, List.nil_append, Option.toList, Int.toNat, Int.reduceToNat, if_pos, if_neg, reduceIte, ↓reduceIte, Nat.reduceAdd, Nat.reduceEqDiff, Nat.reduceBEq, beq_self_eq_true, Bool.not_true, Bool.not_false, Bool.and_true, Bool.and_false, Bool.true_and, Bool.false_and, gI_sI, gI_sL, gI_sA, gI_sM, gL_sI, gL_sL, gL_sA, gL_sM, aI_sI, aI_sL, aI_sA, aI_sM, aL_sI, aL_sL, aL_sA, aL_sM, BisSignAt_0, BisSignAt_8, BisSignAt_18, BisSignAt_28, BisSignAt_32, BisSignAt_33, oi_0, oi_1, oi_5]; try dsimp only
        refine hB _ _ _ _ _ (fun m9 hm9 => ?_)
        dsimp only [ugo, uwp, ust, uct, rfd, BisSignAt, Nat.beq, lv_args, rlk, rs1, rs2, rdl, rky, rcd, rno, rsw, Value.category, List.filter, List.take, List.drop, List.reverse, List.reverseAux, List.cons_append, List.nil_append, Option.toList, Int.toNat, Int.reduceToNat, if_pos, if_neg, reduceIte, ↓reduceIte, Nat.reduceAdd, Nat.reduceEqDiff, Nat.reduceBEq, beq_self_eq_true, Bool.not_true, Bool.not_false, Bool.and_true, Bool.and_false, Bool.true_and, Bool.false_and, gI_sI, gI_sL, gI_sA, gI_sM, gL_sI, gL_sL, gL_sA, gL_sM, aI_sI, aI_sL, aI_sA, aI_sM, aL_sI, aL_sL, aL_sA, aL_sM, BisSignAt_0, BisSignAt_8, BisSignAt_18, BisSignAt_28, BisSignAt_32, BisSignAt_33, oi_0, oi_1, oi_5]; try dsimp only
        unfold Qv_isSignAt
        try dsimp only
        exact ⟨rfl, Or.inr ⟨rfl, by rintro ⟨q1, q2, q3⟩; lia⟩⟩
      · refine hB _ _ _ _ _ (fun m10 hm10 => ?_)
        dsimp only [ugo, uwp, ust, uct, rfd, BisSignAt, Nat.beq, lv_args, rlk, rs1, rs2, rdl, rky, rcd, rno, rsw, Value.category, List.filter, List.take, List.drop, List.reverse, List.reverseAux, List.cons_append, List.nil_append, Option.toList, Int.toNat, Int.reduceToNat, if_pos, if_neg, reduceIte, ↓reduceIte, Nat.reduceAdd, Nat.reduceEqDiff, Nat.reduceBEq, beq_self_eq_true, Bool.not_true, Bool.not_false, Bool.and_true, Bool.and_false, Bool.true_and, Bool.false_and, gI_sI, gI_sL, gI_sA, gI_sM, gL_sI, gL_sL, gL_sA, gL_sM, aI_sI, aI_sL, aI_sA, aI_sM, aL_sI, aL_sL, aL_sA, aL_sM, BisSignAt_0, BisSignAt_8, BisSignAt_18, BisSignAt_28, BisSignAt_32, BisSignAt_33, oi_0, oi_1, oi_5]; try dsimp only
        intro p11
        refine ⟨fun h12 => ?_, fun h12 => ?_⟩
        · refine hB _ _ _ _ _ (fun m13 hm13 => ?_)
          dsimp only [ugo, uwp, ust, uct, rfd, BisSignAt, Nat.beq, lv_args, rlk, rs1, rs2, rdl, rky, rcd, rno, rsw, Value.category, List.filter, List.take, List.drop, List.reverse, List.reverseAux, List.cons_append, List.nil_append, Option.toList, Int.toNat, Int.reduceToNat, if_pos, if_neg, reduceIte, ↓reduceIte, Nat.reduceAdd, Nat.reduceEqDiff, Nat.reduceBEq, beq_self_eq_true, Bool.not_true, Bool.not_false, Bool.and_true, Bool.and_false, Bool.true_and, Bool.false_and, gI_sI, gI_sL, gI_sA, gI_sM, gL_sI, gL_sL, gL_sA, gL_sM, aI_sI, aI_sL, aI_sA, aI_sM, aL_sI, aL_sL, aL_sA, aL_sM, BisSignAt_0, BisSignAt_8, BisSignAt_18, BisSignAt_28, BisSignAt_32, BisSignAt_33, oi_0, oi_1, oi_5]; try dsimp only
          refine hB _ _ _ _ _ (fun m14 hm14 => ?_)
          dsimp only [ugo, uwp, ust, uct, rfd, BisSignAt, Nat.beq, lv_args, rlk, rs1, rs2, rdl, rky, rcd, rno, rsw, Value.category, List.filter, List.take, List.drop, List.reverse, List.reverseAux, List.cons_append, List.nil_append, Option.toList, Int.toNat, Int.reduceToNat, if_pos, if_neg, reduceIte, ↓reduceIte, Nat.reduceAdd, Nat.reduceEqDiff, Nat.reduceBEq, beq_self_eq_true, Bool.not_true, Bool.not_false, Bool.and_true, Bool.and_false, Bool.true_and, Bool.false_and, gI_sI, gI_sL, gI_sA, gI_sM, gL_sI, gL_sL, gL_sA, gL_sM, aI_sI, aI_sL, aI_sA, aI_sM, aL_sI, aL_sL, aL_sA, aL_sM, BisSignAt_0, BisSignAt_8, BisSignAt_18, BisSignAt_28, BisSignAt_32, BisSignAt_33, oi_0, oi_1, oi_5]; try dsimp only
          unfold Qv_isSignAt
          try dsimp only
          exact ⟨rfl, Or.inr ⟨rfl, by rintro ⟨q1, q2, q3⟩; lia⟩⟩
        · refine hB _ _ _ _ _ (fun m15 hm15 => ?_)
          dsimp only [ugo, uwp, ust, uct, rfd, BisSignAt, Nat.beq, lv_args, rlk, rs1, rs2, rdl, rky, rcd, rno, rsw, Value.category, List.filter, List.take, List.drop, List.reverse, List.reverseAux, List.cons_append, List.nil_append, Option.toList, Int.toNat, Int.reduceToNat, if_pos, if_neg, reduceIte, ↓reduceIte, Nat.reduceAdd, Nat.reduceEqDiff, Nat.reduceBEq, beq_self_eq_true, Bool.not_true, Bool.not_false, Bool.and_true, Bool.and_false, Bool.true_and, Bool.false_and, gI_sI, gI_sL, gI_sA, gI_sM, gL_sI, gL_sL, gL_sA, gL_sM, aI_sI, aI_sL, aI_sA, aI_sM, aL_sI, aL_sL, aL_sA, aL_sM, BisSignAt_0, BisSignAt_8, BisSignAt_18, BisSignAt_28, BisSignAt_32, BisSignAt_33, oi_0, oi_1, oi_5]; try dsimp only
          refine hB _ _ _ _ _ (fun m16 hm16 => ?_)
          dsimp only [ugo, uwp, ust, uct, rfd, BisSignAt, Nat.beq, lv_args, rlk, rs1, rs2, rdl, rky, rcd, rno, rsw, Value.category, List.filter, List.take, List.drop, List.reverse, List.reverseAux, List.cons_append, List.nil_append, Option.toList, Int.toNat, Int.reduceToNat, if_pos, if_neg, reduceIte, ↓reduceIte, Nat.reduceAdd, Nat.reduceEqDiff, Nat.reduceBEq, beq_self_eq_true, Bool.not_true, Bool.not_false, Bool.and_true, Bool.and_false, Bool.true_and, Bool.false_and, gI_sI, gI_sL, gI_sA, gI_sM, gL_sI, gL_sL, gL_sA, gL_sM, aI_sI, aI_sL, aI_sA, aI_sM, aL_sI, aL_sL, aL_sA, aL_sM, BisSignAt_0, BisSignAt_8, BisSignAt_18, BisSignAt_28, BisSignAt_32, BisSignAt_33, oi_0, oi_1, oi_5]; try dsimp only
          unfold Qv_isSignAt
          try dsimp only
          exact ⟨rfl, Or.inl ⟨rfl, by lia, vp_in0 (by assumption), by lia, by lia⟩⟩
  next => exact hP.elim
theorem w_isSignAt : UMet 16 (fun _ _ => True) Qw_isSignAt := fun A1 σ _ w τ h hP => v_isSignAt A1 σ hP w τ h
def Pv_grouped : UP1 := fun A1 σ => match A1 with
  | [] => True
  | _ => False
def Qv_grouped : UQ1 := fun A1 σ w τ => match A1 with
  | [] => σ = τ ∧ ((w = some (.int 1) ∧ gR σ (aI σ 64 (gI σ 62 - 1).toNatClampNeg)) ∨ (w = some (.int 0) ∧ ¬ gR σ (aI σ 64 (gI σ 62 - 1).toNatClampNeg)))
  | _ => False
def Qw_grouped : UQ1 := fun A1 σ w τ => Pv_grouped A1 σ → Qv_grouped A1 σ w τ
set_option maxRecDepth 100000 in
set_option maxHeartbeats 4000000 in
theorem v_grouped : UMet 45 (Pv_grouped) (Qv_grouped) := by
  refine UMet.by Bgrouped [] rfl uc0 ?_
  intro A1 σ hP K hB hW
  unfold Pv_grouped at hP
  split at hP
  next =>
    have loop : ∀ (N : Nat) (so c : Int32), ((so = 0 ∧ nT (aI σ 51 (nT (aI σ 64 (gI σ 62 - 1).toNatClampNeg))) ≤ nT c ∧ ∀ j, nT (aI σ 51 (nT (aI σ 64 (gI σ 62 - 1).toNatClampNeg))) ≤ j → j < nT c → (aI σ 19 j = 38 ∨ aI σ 19 j = 39) → ¬ aI σ 20 j = (aI σ 64 (gI σ 62 - 1).toNatClampNeg)) ∨ (so = 1 ∧ gR σ (aI σ 64 (gI σ 62 - 1).toNatClampNeg))) → K N 21 [(0, .ref 1000), (1, .int (aI σ 64 (gI σ 62 - 1).toNatClampNeg)), (2, .int so), (3, .int c)] [] σ := by
      intro N
      induction N using Nat.strongRecOn with
      | ind N loop =>
        intro so c hso
        refine hB _ _ _ _ _ (fun m1 hm1 => ?_)
        dsimp only [ugo, uwp, ust, uct, rfd, Bgrouped, Nat.beq, lv_args, rlk, rs1, rs2, rdl, rky, rcd, rno, rsw, Value.category, List.filter, List.take, List.drop, List.reverse, List.reverseAux, List.cons_append, List.nil_append, Option.toList, Int.toNat, Int.reduceToNat, if_pos, if_neg, reduceIte, ↓reduceIte, Nat.reduceAdd, Nat.reduceEqDiff, Nat.reduceBEq, beq_self_eq_true, Bool.not_true, Bool.not_false, Bool.and_true, Bool.and_false, Bool.true_and, Bool.false_and, gI_sI, gI_sL, gI_sA, gI_sM, gL_sI, gL_sL, gL_sA, gL_sM, aI_sI, aI_sL, aI_sA, aI_sM, aL_sI, aL_sL, aL_sA, aL_sM, Bgrouped_0, Bgrouped_21, Bgrouped_29, Bgrouped_33, Bgrouped_44, Bgrouped_55, Bgrouped_65, Bgrouped_69, Bgrouped_70, Bgrouped_77, oi_0, oi_1, oi_38, oi_39]; try dsimp only
        refine ⟨fun h2 => ?_, fun h2 => ?_⟩
        · refine hB _ _ _ _ _ (fun m3 hm3 => ?_)
          dsimp only [ugo, uwp, ust, uct, rfd, Bgrouped, Nat.beq, lv_args, rlk, rs1, rs2, rdl, rky, rcd, rno, rsw, Value.category, List.filter, List.take, List.drop, List.reverse, List.reverseAux, List.cons_append, List.nil_append, Option.toList, Int.toNat, Int.reduceToNat, if_pos, if_neg, reduceIte, ↓reduceIte, Nat.reduceAdd, Nat.reduceEqDiff, Nat.reduceBEq, beq_self_eq_true, Bool.not_true, Bool.not_false, Bool.and_true, Bool.and_false, Bool.true_and, Bool.false_and, gI_sI, gI_sL, gI_sA, gI_sM, gL_sI, gL_sL, gL_sA, gL_sM, aI_sI, aI_sL, aI_sA, aI_sM, aL_sI, aL_sL, aL_sA, aL_sM, Bgrouped_0, Bgrouped_21, Bgrouped_29, Bgrouped_33, Bgrouped_44, Bgrouped_55, Bgrouped_65, Bgrouped_69, Bgrouped_70, Bgrouped_77, oi_0, oi_1, oi_38, oi_39]; try dsimp only
          unfold Qv_grouped
          try dsimp only
          rcases hso with ⟨rfl, -, hno⟩ | ⟨rfl, hy⟩
          · refine ⟨rfl, Or.inr ⟨rfl, ?_⟩⟩
            rintro ⟨j, q1, q2, q3, q4⟩
            have z := nT_lt2 (x := c) (y := gI σ 18) (by lia) q2
            exact hno j q1 z q3 q4
          · exact ⟨rfl, Or.inl ⟨rfl, hy⟩⟩
        · refine hB _ _ _ _ _ (fun m4 hm4 => ?_)
          dsimp only [ugo, uwp, ust, uct, rfd, Bgrouped, Nat.beq, lv_args, rlk, rs1, rs2, rdl, rky, rcd, rno, rsw, Value.category, List.filter, List.take, List.drop, List.reverse, List.reverseAux, List.cons_append, List.nil_append, Option.toList, Int.toNat, Int.reduceToNat, if_pos, if_neg, reduceIte, ↓reduceIte, Nat.reduceAdd, Nat.reduceEqDiff, Nat.reduceBEq, beq_self_eq_true, Bool.not_true, Bool.not_false, Bool.and_true, Bool.and_false, Bool.true_and, Bool.false_and, gI_sI, gI_sL, gI_sA, gI_sM, gL_sI, gL_sL, gL_sA, gL_sM, aI_sI, aI_sL, aI_sA, aI_sM, aL_sI, aL_sL, aL_sA, aL_sM, Bgrouped_0, Bgrouped_21, Bgrouped_29, Bgrouped_33, Bgrouped_44, Bgrouped_55, Bgrouped_65, Bgrouped_69, Bgrouped_70, Bgrouped_77, oi_0, oi_1, oi_38, oi_39]; try dsimp only
          refine ⟨fun h5 => ?_, fun h5 => ?_⟩
          · refine hB _ _ _ _ _ (fun m6 hm6 => ?_)
            dsimp only [ugo, uwp, ust, uct, rfd, Bgrouped, Nat.beq, lv_args, rlk, rs1, rs2, rdl, rky, rcd, rno, rsw, Value.category, List.filter, List.take, List.drop, List.reverse, List.reverseAux, List.cons_append, List.nil_append, Option.toList, Int.toNat, Int.reduceToNat, if_pos, if_neg, reduceIte, ↓reduceIte, Nat.reduceAdd, Nat.reduceEqDiff, Nat.reduceBEq, beq_self_eq_true, Bool.not_true, Bool.not_false, Bool.and_true, Bool.and_false, Bool.true_and, Bool.false_and, gI_sI, gI_sL, gI_sA, gI_sM, gL_sI, gL_sL, gL_sA, gL_sM, aI_sI, aI_sL, aI_sA, aI_sM, aL_sI, aL_sL, aL_sA, aL_sM, Bgrouped_0, Bgrouped_21, Bgrouped_29, Bgrouped_33, Bgrouped_44, Bgrouped_55, Bgrouped_65, Bgrouped_69, Bgrouped_70, Bgrouped_77, oi_0, oi_1, oi_38, oi_39]; try dsimp only
            refine hB _ _ _ _ _ (fun m7 hm7 => ?_)
            dsimp only [ugo, uwp, ust, uct, rfd, Bgrouped, Nat.beq, lv_args, rlk, rs1, rs2, rdl, rky, rcd, rno, rsw, Value.category, List.filter, List.take, List.drop, List.reverse, List.reverseAux, List.cons_append, List.nil_append, Option.toList, Int.toNat, Int.reduceToNat, if_pos, if_neg, reduceIte, ↓reduceIte, Nat.reduceAdd, Nat.reduceEqDiff, Nat.reduceBEq, beq_self_eq_true, Bool.not_true, Bool.not_false, Bool.and_true, Bool.and_false, Bool.true_and, Bool.false_and, gI_sI, gI_sL, gI_sA, gI_sM, gL_sI, gL_sL, gL_sA, gL_sM, aI_sI, aI_sL, aI_sA, aI_sM, aL_sI, aL_sL, aL_sA, aL_sM, Bgrouped_0, Bgrouped_21, Bgrouped_29, Bgrouped_33, Bgrouped_44, Bgrouped_55, Bgrouped_65, Bgrouped_69, Bgrouped_70, Bgrouped_77, oi_0, oi_1, oi_38, oi_39]; try dsimp only
            exact hW _ 21 [(0, .ref 1000), (1, .int (aI σ 64 (gI σ 62 - 1).toNatClampNeg)), (2, .int 1), (3, .int (c + 1))] _ _ _ (by simp [rdl, rky]) (loop _ (by omega) 1 (c + 1) (hso.elim (fun q => absurd q.1 (by lia)) (fun q => Or.inr ⟨rfl, q.2⟩)))
          · refine hB _ _ _ _ _ (fun m8 hm8 => ?_)
            dsimp only [ugo, uwp, ust, uct, rfd, Bgrouped, Nat.beq, lv_args, rlk, rs1, rs2, rdl, rky, rcd, rno, rsw, Value.category, List.filter, List.take, List.drop, List.reverse, List.reverseAux, List.cons_append, List.nil_append, Option.toList, Int.toNat, Int.reduceToNat, if_pos, if_neg, reduceIte, ↓reduceIte, Nat.reduceAdd, Nat.reduceEqDiff, Nat.reduceBEq, beq_self_eq_true, Bool.not_true, Bool.not_false, Bool.and_true, Bool.and_false, Bool.true_and, Bool.false_and, gI_sI, gI_sL, gI_sA, gI_sM, gL_sI, gL_sL, gL_sA, gL_sM, aI_sI, aI_sL, aI_sA, aI_sM, aL_sI, aL_sL, aL_sA, aL_sM, Bgrouped_0, Bgrouped_21, Bgrouped_29, Bgrouped_33, Bgrouped_44, Bgrouped_55, Bgrouped_65, Bgrouped_69, Bgrouped_70, Bgrouped_77, oi_0, oi_1, oi_38, oi_39]; try dsimp only
            obtain ⟨-, hlo, hno⟩ := hso.resolve_right (fun q => absurd q.1 (by lia))
            intro p9
            refine ⟨fun h10 => ?_, fun h10 => ?_⟩
            · refine hB _ _ _ _ _ (fun m11 hm11 => ?_)
              dsimp only [ugo, uwp, ust, uct, rfd, Bgrouped, Nat.beq, lv_args, rlk, rs1, rs2, rdl, rky, rcd, rno, rsw, Value.category, List.filter, List.take, List.drop, List.reverse, List.reverseAux, List.cons_append, List.nil_append, Option.toList, Int.toNat, Int.reduceToNat, if_pos, if_neg, reduceIte, ↓reduceIte, Nat.reduceAdd, Nat.reduceEqDiff, Nat.reduceBEq, beq_self_eq_true, Bool.not_true, Bool.not_false, Bool.and_true, Bool.and_false, Bool.true_and, Bool.false_and, gI_sI, gI_sL, gI_sA, gI_sM, gL_sI, gL_sL, gL_sA, gL_sM, aI_sI, aI_sL, aI_sA, aI_sM, aL_sI, aL_sL, aL_sA, aL_sM, Bgrouped_0, Bgrouped_21, Bgrouped_29, Bgrouped_33, Bgrouped_44, Bgrouped_55, Bgrouped_65, Bgrouped_69, Bgrouped_70, Bgrouped_77, oi_0, oi_1, oi_38, oi_39]; try dsimp only
              intro p12
              refine ⟨fun h13 => ?_, fun h13 => ?_⟩
              · refine hB _ _ _ _ _ (fun m14 hm14 => ?_)
                dsimp only [ugo, uwp, ust, uct, rfd, Bgrouped, Nat.beq, lv_args, rlk, rs1, rs2, rdl, rky, rcd, rno, rsw, Value.category, List.filter, List.take, List.drop, List.reverse, List.reverseAux, List.cons_append, List.nil_append, Option.toList, Int.toNat, Int.reduceToNat, if_pos, if_neg, reduceIte, ↓reduceIte, Nat.reduceAdd, Nat.reduceEqDiff, Nat.reduceBEq, beq_self_eq_true, Bool.not_true, Bool.not_false, Bool.and_true, Bool.and_false, Bool.true_and, Bool.false_and, gI_sI, gI_sL, gI_sA, gI_sM, gL_sI, gL_sL, gL_sA, gL_sM, aI_sI, aI_sL, aI_sA, aI_sM, aL_sI, aL_sL, aL_sA, aL_sM, Bgrouped_0, Bgrouped_21, Bgrouped_29, Bgrouped_33, Bgrouped_44, Bgrouped_55, Bgrouped_65, Bgrouped_69, Bgrouped_70, Bgrouped_77, oi_0, oi_1, oi_38, oi_39]; try dsimp only
                refine hB _ _ _ _ _ (fun m15 hm15 => ?_)
                dsimp only [ugo, uwp, ust, uct, rfd, Bgrouped, Nat.beq, lv_args, rlk, rs1, rs2, rdl, rky, rcd, rno, rsw, Value.category, List.filter, List.take, List.drop, List.reverse, List.reverseAux, List.cons_append, List.nil_append, Option.toList, Int.toNat, Int.reduceToNat, if_pos, if_neg, reduceIte, ↓reduceIte, Nat.reduceAdd, Nat.reduceEqDiff, Nat.reduceBEq, beq_self_eq_true, Bool.not_true, Bool.not_false, Bool.and_true, Bool.and_false, Bool.true_and, Bool.false_and, gI_sI, gI_sL, gI_sA, gI_sM, gL_sI, gL_sL, gL_sA, gL_sM, aI_sI, aI_sL, aI_sA, aI_sM, aL_sI, aL_sL, aL_sA, aL_sM, Bgrouped_0, Bgrouped_21, Bgrouped_29, Bgrouped_33, Bgrouped_44, Bgrouped_55, Bgrouped_65, Bgrouped_69, Bgrouped_70, Bgrouped_77, oi_0, oi_1, oi_38, oi_39]; try dsimp only
                have e1 := nT_add (x := c) (vp_in0 (by assumption)) (by lia)
                exact hW _ 21 [(0, .ref 1000), (1, .int (aI σ 64 (gI σ 62 - 1).toNatClampNeg)), (2, .int 0), (3, .int (c + 1))] _ _ _ (by simp [rdl, rky]) (loop _ (by omega) 0 (c + 1) (Or.inl ⟨rfl, by omega, fun j h1 h2 => (by by_cases q : j = nT c; (subst q; intro q1 q2; have q1 : aI σ 19 c.toNatClampNeg = 38 ∨ aI σ 19 c.toNatClampNeg = 39 := q1; have q2 : aI σ 20 c.toNatClampNeg = _ := q2; lia); exact hno j h1 (by omega))⟩))
              · refine hB _ _ _ _ _ (fun m16 hm16 => ?_)
                dsimp only [ugo, uwp, ust, uct, rfd, Bgrouped, Nat.beq, lv_args, rlk, rs1, rs2, rdl, rky, rcd, rno, rsw, Value.category, List.filter, List.take, List.drop, List.reverse, List.reverseAux, List.cons_append, List.nil_append, Option.toList, Int.toNat, Int.reduceToNat, if_pos, if_neg, reduceIte, ↓reduceIte, Nat.reduceAdd, Nat.reduceEqDiff, Nat.reduceBEq, beq_self_eq_true, Bool.not_true, Bool.not_false, Bool.and_true, Bool.and_false, Bool.true_and, Bool.false_and, gI_sI, gI_sL, gI_sA, gI_sM, gL_sI, gL_sL, gL_sA, gL_sM, aI_sI, aI_sL, aI_sA, aI_sM, aL_sI, aL_sL, aL_sA, aL_sM, Bgrouped_0, Bgrouped_21, Bgrouped_29, Bgrouped_33, Bgrouped_44, Bgrouped_55, Bgrouped_65, Bgrouped_69, Bgrouped_70, Bgrouped_77, oi_0, oi_1, oi_38, oi_39]; try dsimp only
                refine hB _ _ _ _ _ (fun m17 hm17 => ?_)
                dsimp only [ugo, uwp, ust, uct, rfd, Bgrouped, Nat.beq, lv_args, rlk, rs1, rs2, rdl, rky, rcd, rno, rsw, Value.category, List.filter, List.take, List.drop, List.reverse, List.reverseAux, List.cons_append, List.nil_append, Option.toList, Int.toNat, Int.reduceToNat, if_pos, if_neg, reduceIte, ↓reduceIte, Nat.reduceAdd, Nat.reduceEqDiff, Nat.reduceBEq, beq_self_eq_true, Bool.not_true, Bool.not_false, Bool.and_true, Bool.and_false, Bool.true_and, Bool.false_and, gI_sI, gI_sL, gI_sA, gI_sM, gL_sI, gL_sL, gL_sA, gL_sM, aI_sI, aI_sL, aI_sA, aI_sM, aL_sI, aL_sL, aL_sA, aL_sM, Bgrouped_0, Bgrouped_21, Bgrouped_29, Bgrouped_33, Bgrouped_44, Bgrouped_55, Bgrouped_65, Bgrouped_69, Bgrouped_70, Bgrouped_77, oi_0, oi_1, oi_38, oi_39]; try dsimp only
                have e1 := nT_add (x := c) (vp_in0 (by assumption)) (by lia)
                exact hW _ 21 [(0, .ref 1000), (1, .int (aI σ 64 (gI σ 62 - 1).toNatClampNeg)), (2, .int 1), (3, .int (c + 1))] _ _ _ (by simp [rdl, rky]) (loop _ (by omega) 1 (c + 1) (Or.inr ⟨rfl, (nT c), hlo, nT_lt (vp_in0 (by assumption)) (by lia), (show aI σ 19 c.toNatClampNeg = 38 ∨ aI σ 19 c.toNatClampNeg = 39 by lia), (show aI σ 20 c.toNatClampNeg = _ by lia)⟩))
            · refine hB _ _ _ _ _ (fun m18 hm18 => ?_)
              dsimp only [ugo, uwp, ust, uct, rfd, Bgrouped, Nat.beq, lv_args, rlk, rs1, rs2, rdl, rky, rcd, rno, rsw, Value.category, List.filter, List.take, List.drop, List.reverse, List.reverseAux, List.cons_append, List.nil_append, Option.toList, Int.toNat, Int.reduceToNat, if_pos, if_neg, reduceIte, ↓reduceIte, Nat.reduceAdd, Nat.reduceEqDiff, Nat.reduceBEq, beq_self_eq_true, Bool.not_true, Bool.not_false, Bool.and_true, Bool.and_false, Bool.true_and, Bool.false_and, gI_sI, gI_sL, gI_sA, gI_sM, gL_sI, gL_sL, gL_sA, gL_sM, aI_sI, aI_sL, aI_sA, aI_sM, aL_sI, aL_sL, aL_sA, aL_sM, Bgrouped_0, Bgrouped_21, Bgrouped_29, Bgrouped_33, Bgrouped_44, Bgrouped_55, Bgrouped_65, Bgrouped_69, Bgrouped_70, Bgrouped_77, oi_0, oi_1, oi_38, oi_39]; try dsimp only
              intro p19
              refine ⟨fun h20 => ?_, fun h20 => ?_⟩
              · refine hB _ _ _ _ _ (fun m21 hm21 => ?_)
                dsimp only [ugo, uwp, ust, uct, rfd, Bgrouped, Nat.beq, lv_args, rlk, rs1, rs2, rdl, rky, rcd, rno, rsw, Value.category, List.filter, List.take, List.drop, List.reverse, List.reverseAux, List.cons_append, List.nil_append, Option.toList, Int.toNat, Int.reduceToNat, if_pos, if_neg, reduceIte, ↓reduceIte, Nat.reduceAdd, Nat.reduceEqDiff, Nat.reduceBEq, beq_self_eq_true, Bool.not_true, Bool.not_false, Bool.and_true, Bool.and_false, Bool.true_and, Bool.false_and, gI_sI, gI_sL, gI_sA, gI_sM, gL_sI, gL_sL, gL_sA, gL_sM, aI_sI, aI_sL, aI_sA, aI_sM, aL_sI, aL_sL, aL_sA, aL_sM, Bgrouped_0, Bgrouped_21, Bgrouped_29, Bgrouped_33, Bgrouped_44, Bgrouped_55, Bgrouped_65, Bgrouped_69, Bgrouped_70, Bgrouped_77, oi_0, oi_1, oi_38, oi_39]; try dsimp only
                refine hB _ _ _ _ _ (fun m22 hm22 => ?_)
                dsimp only [ugo, uwp, ust, uct, rfd, Bgrouped, Nat.beq, lv_args, rlk, rs1, rs2, rdl, rky, rcd, rno, rsw, Value.category, List.filter, List.take, List.drop, List.reverse, List.reverseAux, List.cons_append, List.nil_append, Option.toList, Int.toNat, Int.reduceToNat, if_pos, if_neg, reduceIte, ↓reduceIte, Nat.reduceAdd, Nat.reduceEqDiff, Nat.reduceBEq, beq_self_eq_true, Bool.not_true, Bool.not_false, Bool.and_true, Bool.and_false, Bool.true_and, Bool.false_and, gI_sI, gI_sL, gI_sA, gI_sM, gL_sI, gL_sL, gL_sA, gL_sM, aI_sI, aI_sL, aI_sA, aI_sM, aL_sI, aL_sL, aL_sA, aL_sM, Bgrouped_0, Bgrouped_21, Bgrouped_29, Bgrouped_33, Bgrouped_44, Bgrouped_55, Bgrouped_65, Bgrouped_69, Bgrouped_70, Bgrouped_77, oi_0, oi_1, oi_38, oi_39]; try dsimp only
                have e1 := nT_add (x := c) (vp_in0 (by assumption)) (by lia)
                exact hW _ 21 [(0, .ref 1000), (1, .int (aI σ 64 (gI σ 62 - 1).toNatClampNeg)), (2, .int 0), (3, .int (c + 1))] _ _ _ (by simp [rdl, rky]) (loop _ (by omega) 0 (c + 1) (Or.inl ⟨rfl, by omega, fun j h1 h2 => (by by_cases q : j = nT c; (subst q; intro q1 q2; have q1 : aI σ 19 c.toNatClampNeg = 38 ∨ aI σ 19 c.toNatClampNeg = 39 := q1; have q2 : aI σ 20 c.toNatClampNeg = _ := q2; lia); exact hno j h1 (by omega))⟩))
              · refine hB _ _ _ _ _ (fun m23 hm23 => ?_)
                dsimp only [ugo, uwp, ust, uct, rfd, Bgrouped, Nat.beq, lv_args, rlk, rs1, rs2, rdl, rky, rcd, rno, rsw, Value.category, List.filter, List.take, List.drop, List.reverse, List.reverseAux, List.cons_append, List.nil_append, Option.toList, Int.toNat, Int.reduceToNat, if_pos, if_neg, reduceIte, ↓reduceIte, Nat.reduceAdd, Nat.reduceEqDiff, Nat.reduceBEq, beq_self_eq_true, Bool.not_true, Bool.not_false, Bool.and_true, Bool.and_false, Bool.true_and, Bool.false_and, gI_sI, gI_sL, gI_sA, gI_sM, gL_sI, gL_sL, gL_sA, gL_sM, aI_sI, aI_sL, aI_sA, aI_sM, aL_sI, aL_sL, aL_sA, aL_sM, Bgrouped_0, Bgrouped_21, Bgrouped_29, Bgrouped_33, Bgrouped_44, Bgrouped_55, Bgrouped_65, Bgrouped_69, Bgrouped_70, Bgrouped_77, oi_0, oi_1, oi_38, oi_39]; try dsimp only
                intro p24
                refine ⟨fun h25 => ?_, fun h25 => ?_⟩
                · refine hB _ _ _ _ _ (fun m26 hm26 => ?_)
                  dsimp only [ugo, uwp, ust, uct, rfd, Bgrouped, Nat.beq, lv_args, rlk, rs1, rs2, rdl, rky, rcd, rno, rsw, Value.category, List.filter, List.take, List.drop, List.reverse, List.reverseAux, List.cons_append, List.nil_append, Option.toList, Int.toNat, Int.reduceToNat, if_pos, if_neg, reduceIte, ↓reduceIte, Nat.reduceAdd, Nat.reduceEqDiff, Nat.reduceBEq, beq_self_eq_true, Bool.not_true, Bool.not_false, Bool.and_true, Bool.and_false, Bool.true_and, Bool.false_and, gI_sI, gI_sL, gI_sA, gI_sM, gL_sI, gL_sL, gL_sA, gL_sM, aI_sI, aI_sL, aI_sA, aI_sM, aL_sI, aL_sL, aL_sA, aL_sM, Bgrouped_0, Bgrouped_21, Bgrouped_29, Bgrouped_33, Bgrouped_44, Bgrouped_55, Bgrouped_65, Bgrouped_69, Bgrouped_70, Bgrouped_77, oi_0, oi_1, oi_38, oi_39]; try dsimp only
                  refine hB _ _ _ _ _ (fun m27 hm27 => ?_)
                  dsimp only [ugo, uwp, ust, uct, rfd, Bgrouped, Nat.beq, lv_args, rlk, rs1, rs2, rdl, rky, rcd, rno, rsw, Value.category, List.filter, List.take, List.drop, List.reverse, List.reverseAux, List.cons_append, List.nil_append, Option.toList, Int.toNat, Int.reduceToNat, if_pos, if_neg, reduceIte, ↓reduceIte, Nat.reduceAdd, Nat.reduceEqDiff, Nat.reduceBEq, beq_self_eq_true, Bool.not_true, Bool.not_false, Bool.and_true, Bool.and_false, Bool.true_and, Bool.false_and, gI_sI, gI_sL, gI_sA, gI_sM, gL_sI, gL_sL, gL_sA, gL_sM, aI_sI, aI_sL, aI_sA, aI_sM, aL_sI, aL_sL, aL_sA, aL_sM, Bgrouped_0, Bgrouped_21, Bgrouped_29, Bgrouped_33, Bgrouped_44, Bgrouped_55, Bgrouped_65, Bgrouped_69, Bgrouped_70, Bgrouped_77, oi_0, oi_1, oi_38, oi_39]; try dsimp only
                  have e1 := nT_add (x := c) (vp_in0 (by assumption)) (by lia)
                  exact hW _ 21 [(0, .ref 1000), (1, .int (aI σ 64 (gI σ 62 - 1).toNatClampNeg)), (2, .int 0), (3, .int (c + 1))] _ _ _ (by simp [rdl, rky]) (loop _ (by omega) 0 (c + 1) (Or.inl ⟨rfl, by omega, fun j h1 h2 => (by by_cases q : j = nT c; (subst q; intro q1 q2; have q1 : aI σ 19 c.toNatClampNeg = 38 ∨ aI σ 19 c.toNatClampNeg = 39 := q1; have q2 : aI σ 20 c.toNatClampNeg = _ := q2; lia); exact hno j h1 (by omega))⟩))
                · refine hB _ _ _ _ _ (fun m28 hm28 => ?_)
                  dsimp only [ugo, uwp, ust, uct, rfd, Bgrouped, Nat.beq, lv_args, rlk, rs1, rs2, rdl, rky, rcd, rno, rsw, Value.category, List.filter, List.take, List.drop, List.reverse, List.reverseAux, List.cons_append, List.nil_append, Option.toList, Int.toNat, Int.reduceToNat, if_pos, if_neg, reduceIte, ↓reduceIte, Nat.reduceAdd, Nat.reduceEqDiff, Nat.reduceBEq, beq_self_eq_true, Bool.not_true, Bool.not_false, Bool.and_true, Bool.and_false, Bool.true_and, Bool.false_and, gI_sI, gI_sL, gI_sA, gI_sM, gL_sI, gL_sL, gL_sA, gL_sM, aI_sI, aI_sL, aI_sA, aI_sM, aL_sI, aL_sL, aL_sA, aL_sM, Bgrouped_0, Bgrouped_21, Bgrouped_29, Bgrouped_33, Bgrouped_44, Bgrouped_55, Bgrouped_65, Bgrouped_69, Bgrouped_70, Bgrouped_77, oi_0, oi_1, oi_38, oi_39]; try dsimp only
                  refine hB _ _ _ _ _ (fun m29 hm29 => ?_)
                  dsimp only [ugo, uwp, ust, uct, rfd, Bgrouped, Nat.beq, lv_args, rlk, rs1, rs2, rdl, rky, rcd, rno, rsw, Value.category, List.filter, List.take, List.drop, List.reverse, List.reverseAux, List.cons_append, List.nil_append, Option.toList, Int.toNat, Int.reduceToNat, if_pos, if_neg, reduceIte, ↓reduceIte, Nat.reduceAdd, Nat.reduceEqDiff, Nat.reduceBEq, beq_self_eq_true, Bool.not_true, Bool.not_false, Bool.and_true, Bool.and_false, Bool.true_and, Bool.false_and, gI_sI, gI_sL, gI_sA, gI_sM, gL_sI, gL_sL, gL_sA, gL_sM, aI_sI, aI_sL, aI_sA, aI_sM, aL_sI, aL_sL, aL_sA, aL_sM, Bgrouped_0, Bgrouped_21, Bgrouped_29, Bgrouped_33, Bgrouped_44, Bgrouped_55, Bgrouped_65, Bgrouped_69, Bgrouped_70, Bgrouped_77, oi_0, oi_1, oi_38, oi_39]; try dsimp only
                  have e1 := nT_add (x := c) (vp_in0 (by assumption)) (by lia)
                  exact hW _ 21 [(0, .ref 1000), (1, .int (aI σ 64 (gI σ 62 - 1).toNatClampNeg)), (2, .int 1), (3, .int (c + 1))] _ _ _ (by simp [rdl, rky]) (loop _ (by omega) 1 (c + 1) (Or.inr ⟨rfl, (nT c), hlo, nT_lt (vp_in0 (by assumption)) (by lia), (show aI σ 19 c.toNatClampNeg = 38 ∨ aI σ 19 c.toNatClampNeg = 39 by lia), (show aI σ 20 c.toNatClampNeg = _ by lia)⟩))
    intro n0_
    refine hB _ _ _ _ _ (fun m1 hm1 => ?_)
    dsimp only [ugo, uwp, ust, uct, rfd, Bgrouped, Nat.beq, lv_args, rlk, rs1, rs2, rdl, rky, rcd, rno, rsw, Value.category, List.filter, List.take, List.drop, List.reverse, List.reverseAux, List.cons_append, List.nil_append, Option.toList, Int.toNat, Int.reduceToNat, if_pos, if_neg, reduceIte, ↓reduceIte, Nat.reduceAdd, Nat.reduceEqDiff, Nat.reduceBEq, beq_self_eq_true, Bool.not_true, Bool.not_false, Bool.and_true, Bool.and_false, Bool.true_and, Bool.false_and, gI_sI, gI_sL, gI_sA, gI_sM, gL_sI, gL_sL, gL_sA, gL_sM, aI_sI, aI_sL, aI_sA, aI_sM, aL_sI, aL_sL, aL_sA, aL_sM, Bgrouped_0, Bgrouped_21, Bgrouped_29, Bgrouped_33, Bgrouped_44, Bgrouped_55, Bgrouped_65, Bgrouped_69, Bgrouped_70, Bgrouped_77, oi_0, oi_1, oi_38, oi_39]; try dsimp only
    intro p2
    intro p3
    exact hW _ 21 [(0, .ref 1000), (1, .int (aI σ 64 (gI σ 62 - 1).toNatClampNeg)), (2, .int 0), (3, .int (aI σ 51 (aI σ 64 (gI σ 62 - 1).toNatClampNeg).toNatClampNeg))] _ _ _ (by simp [rdl, rky]) (loop _ 0 _ (Or.inl ⟨rfl, Nat.le_refl _, fun j a b => by have a : nT (aI σ 51 (nT (aI σ 64 (gI σ 62 - 1).toNatClampNeg))) ≤ j := a; have b : j < nT (aI σ 51 (nT (aI σ 64 (gI σ 62 - 1).toNatClampNeg))) := b; omega⟩))
  next => exact hP.elim
theorem w_grouped : UMet 45 (fun _ _ => True) Qw_grouped := fun A1 σ _ w τ h hP => v_grouped A1 σ hP w τ h
def Pv_open (s : SpC) (n : Nat) : UP1 := fun A1 σ => match A1 with
  | [.int sort, .int k, .int step] => SR σ s n ∧ FgR σ 0 ∧ nT k < nT (gI σ 49) ∧ (0 ≤ sort.toInt ∧ sort.toInt ≤ 11) ∧ (sort.toInt = 0 ↔ frR σ = []) ∧ 0 < gI σ 36 ∧ (sort = 8 → nT (aI σ 51 (nT k)) ≤ nT (gI σ 18) ∧ ¬ gR σ k)
  | _ => False
def Qv_open (s : SpC) (n : Nat) : UQ1 := fun A1 σ w τ => match A1 with
  | [.int sort, .int k, .int step] => (w = some (.int 0) ∧ n = 1 ∧ FlR τ (raiY 3 s)) ∨ (w = some (.int 1) ∧ 2 ≤ n ∧ SR τ s (n - 1) ∧ FgR τ 1 ∧ frR τ = sort.toInt :: frR σ)
  | _ => False
def Qw_open : UQ1 := fun A1 σ w τ => ∀ (s : SpC) (n : Nat), Pv_open s n A1 σ → Qv_open s n A1 σ w τ
set_option maxRecDepth 100000 in
set_option maxHeartbeats 4000000 in
theorem v_open (s : SpC) (n : Nat) : UMet 36 (Pv_open s n) (Qv_open s n) := by
  refine UMet.by Bopen [(19, (fun _ _ => True), Qw_enter)] rfl (ucc w_enter uc0) ?_
  intro A1 σ hP K hB hW
  unfold Pv_open at hP
  split at hP
  next sort k step =>
    obtain ⟨hR, hg, hk, hs, h0, h6, h8⟩ := hP
    have hnn := hR.2.1
    intro n0_
    refine hB _ _ _ _ _ (fun m1 hm1 => ?_)
    dsimp only [ugo, uwp, ust, uct, rfd, Bopen, Nat.beq, lv_args, rlk, rs1, rs2, rdl, rky, rcd, rno, rsw, Value.category, List.filter, List.take, List.drop, List.reverse, List.reverseAux, List.cons_append, List.nil_append, Option.toList, Int.toNat, Int.reduceToNat, if_pos, if_neg, reduceIte, ↓reduceIte, Nat.reduceAdd, Nat.reduceEqDiff, Nat.reduceBEq, beq_self_eq_true, Bool.not_true, Bool.not_false, Bool.and_true, Bool.and_false, Bool.true_and, Bool.false_and, gI_sI, gI_sL, gI_sA, gI_sM, gL_sI, gL_sL, gL_sA, gL_sM, aI_sI, aI_sL, aI_sA, aI_sM, aL_sI, aL_sL, aL_sA, aL_sM, Bopen_0, oi_1]; try dsimp only
    intro p2
    intro p3
    intro p4
    refine ⟨trivial, fun w5 τ5 hq5 => ?_⟩
    have hb_ := vin (m := 80) (j := gI σ 62) (by assumption) (by decide) (by decide)
    have hq5 := hq5 (sI (sA (sA (sA σ 63 (upd (aI σ 63) (gI σ 62).toNatClampNeg sort)) 64 (upd (aI σ 64) (gI σ 62).toNatClampNeg k)) 65 (upd (aI σ 65) (gI σ 62).toNatClampNeg step)) 62 (gI σ 62 + 1)) s n ⟨⟨hR.1.kp rfl rfl rfl rfl rfl rfl, ⟨hR.2.1.1, hR.2.1.2.1⟩, KR.rf⟩, by omega⟩
    rcases hq5 with ⟨rfl, hn5, hF5⟩ | ⟨rfl, hn5, hX5, hS5⟩
    · dsimp only [Option.toList, List.cons_append, List.nil_append, Nat.beq, gI_sI, gI_sL, gI_sA, gI_sM, gL_sI, gL_sL, gL_sA, gL_sM, aI_sI, aI_sL, aI_sA, aI_sM, aL_sI, aL_sL, aL_sA, aL_sM]
      unfold Qv_open
      try dsimp only
      exact Or.inl ⟨rfl, hn5, hF5⟩
    · dsimp only [Option.toList, List.cons_append, List.nil_append, Nat.beq, gI_sI, gI_sL, gI_sA, gI_sM, gL_sI, gL_sL, gL_sA, gL_sM, aI_sI, aI_sL, aI_sA, aI_sM, aL_sI, aL_sL, aL_sA, aL_sM]
      unfold Qv_open
      try dsimp only
      have ei : ∀ j, j ≠ 17 → j ≠ 62 → gI τ5 j = gI σ j := fun j h1 h2 => (hS5.1 j h1).trans (by rw [gI_sI, nb_ne h2]; rfl)
      have z := SR.op hR hg hn5 hX5.1 hX5.2.1.1 ((hS5.1 62 (by decide)).trans rfl) hb_.2 ei ((hS5.2 63).trans rfl) ((hS5.2 64).trans rfl) (fun j hj => (hS5.2 j).trans ((aI_ne (by omega)).trans ((aI_ne (by omega)).trans ((aI_ne (by omega)).trans rfl)))) hk hs h0 h6 h8
      exact Or.inr ⟨rfl, hn5, z.1, z.2.1, z.2.2⟩
  next => exact hP.elim
theorem w_open : UMet 36 (fun _ _ => True) Qw_open := fun A1 σ _ w τ h s n hP => v_open s n A1 σ hP w τ h
def Pv_condition (σ0 : RS) (s : SpC) (n : Nat) : UP1 := fun A1 σ => match A1 with
  | [] => XrR σ0 σ s n ∧ n ≤ 21
  | _ => False
def Qv_condition (σ0 : RS) (s : SpC) (n : Nat) : UQ1 := fun A1 σ w τ => match A1 with
  | [] => (w = some (.int 0) ∧ FlR τ (cndY n s)) ∨ (w = some (.int 1) ∧ XrR σ0 τ (cndY n s) n ∧ (cndY n s).2 = s.2)
  | _ => False
def Qw_condition : UQ1 := fun A1 σ w τ => ∀ (σ0 : RS) (s : SpC) (n : Nat), Pv_condition σ0 s n A1 σ → Qv_condition σ0 s n A1 σ w τ
set_option maxRecDepth 100000 in
set_option maxHeartbeats 4000000 in
theorem v_condition (σ0 : RS) (s : SpC) (n : Nat) : UMet 52 (Pv_condition σ0 s n) (Qv_condition σ0 s n) := by
  refine UMet.by Bcondition [(27, (fun _ _ => True), Qw_expression), (18, (fun _ _ => True), Qw_want)] rfl (ucc w_expression (ucc w_want uc0)) ?_
  intro A1 σ hP K hB hW
  unfold Pv_condition at hP
  split at hP
  next =>
    obtain ⟨hX, hn⟩ := hP
    intro n0_
    refine hB _ _ _ _ _ (fun m1 hm1 => ?_)
    dsimp only [ugo, uwp, ust, uct, rfd, Bcondition, Nat.beq, lv_args, rlk, rs1, rs2, rdl, rky, rcd, rno, rsw, Value.category, List.filter, List.take, List.drop, List.reverse, List.reverseAux, List.cons_append, List.nil_append, Option.toList, Int.toNat, Int.reduceToNat, if_pos, if_neg, reduceIte, ↓reduceIte, Nat.reduceAdd, Nat.reduceEqDiff, Nat.reduceBEq, beq_self_eq_true, Bool.not_true, Bool.not_false, Bool.and_true, Bool.and_false, Bool.true_and, Bool.false_and, gI_sI, gI_sL, gI_sA, gI_sM, gL_sI, gL_sL, gL_sA, gL_sM, aI_sI, aI_sL, aI_sA, aI_sM, aL_sI, aL_sL, aL_sA, aL_sM, Bcondition_0, Bcondition_9, Bcondition_16, Bcondition_25, Bcondition_29, Bcondition_30, oi_0, oi_1, oi_40, oi_41]; try dsimp only
    refine ⟨trivial, fun w2 τ2 hq2 => ?_⟩
    have hq2 := hq2 σ0 s n 0 ⟨(by repeat (first | exact hX | refine XrR.i ?_ (by decide) | refine XrR.up ?_ (by omega) | refine XrR.a ?_ (by decide))), by decide⟩
    rcases hq2 with ⟨rfl, hF2⟩ | ⟨rfl, hc2, hX2, hz2, hS2⟩
    · dsimp only [Option.toList, List.cons_append, List.nil_append, Nat.beq, gI_sI, gI_sL, gI_sA, gI_sM, gL_sI, gL_sL, gL_sA, gL_sM, aI_sI, aI_sL, aI_sA, aI_sM, aL_sI, aL_sL, aL_sA, aL_sM]
      refine ⟨fun h3 => ?_, fun h3 => absurd h3 (by decide)⟩
      clear h3
      refine hB _ _ _ _ _ (fun m4 hm4 => ?_)
      dsimp only [ugo, uwp, ust, uct, rfd, Bcondition, Nat.beq, lv_args, rlk, rs1, rs2, rdl, rky, rcd, rno, rsw, Value.category, List.filter, List.take, List.drop, List.reverse, List.reverseAux, List.cons_append, List.nil_append, Option.toList, Int.toNat, Int.reduceToNat, if_pos, if_neg, reduceIte, ↓reduceIte, Nat.reduceAdd, Nat.reduceEqDiff, Nat.reduceBEq, beq_self_eq_true, Bool.not_true, Bool.not_false, Bool.and_true, Bool.and_false, Bool.true_and, Bool.false_and, gI_sI, gI_sL, gI_sA, gI_sM, gL_sI, gL_sL, gL_sA, gL_sM, aI_sI, aI_sL, aI_sA, aI_sM, aL_sI, aL_sL, aL_sA, aL_sM, Bcondition_0, Bcondition_9, Bcondition_16, Bcondition_25, Bcondition_29, Bcondition_30, oi_0, oi_1, oi_40, oi_41]; try dsimp only
      refine hB _ _ _ _ _ (fun m5 hm5 => ?_)
      dsimp only [ugo, uwp, ust, uct, rfd, Bcondition, Nat.beq, lv_args, rlk, rs1, rs2, rdl, rky, rcd, rno, rsw, Value.category, List.filter, List.take, List.drop, List.reverse, List.reverseAux, List.cons_append, List.nil_append, Option.toList, Int.toNat, Int.reduceToNat, if_pos, if_neg, reduceIte, ↓reduceIte, Nat.reduceAdd, Nat.reduceEqDiff, Nat.reduceBEq, beq_self_eq_true, Bool.not_true, Bool.not_false, Bool.and_true, Bool.and_false, Bool.true_and, Bool.false_and, gI_sI, gI_sL, gI_sA, gI_sM, gL_sI, gL_sL, gL_sA, gL_sM, aI_sI, aI_sL, aI_sA, aI_sM, aL_sI, aL_sL, aL_sA, aL_sM, Bcondition_0, Bcondition_9, Bcondition_16, Bcondition_25, Bcondition_29, Bcondition_30, oi_0, oi_1, oi_40, oi_41]; try dsimp only
      unfold Qv_condition
      try dsimp only
      refine Or.inl ⟨rfl, FlR.g hF2 ?_⟩
      unfold cndY
      exact (by repeat (first | with_reducible exact GpY.rf | with_reducible refine GpY.tr ?_ (gd_fo _) | with_reducible refine GpY.tr ?_ (gd_ef _) | with_reducible refine GpY.tr ?_ (gd_cf _) | with_reducible refine GpY.tr ?_ (gd_wt _) | with_reducible refine GpY.tr ?_ (gd_xp _) | with_reducible refine GpY.tr ?_ (gd_acc _) | with_reducible refine GpY.tr ?_ (gd_rai _) | with_reducible refine GpY.tr ?_ (gd_e _) | with_reducible refine GpY.tr ?_ (gd_o _) | with_reducible refine GpY.tr ?_ (gd_c _) | with_reducible refine GpY.tr ?_ (gd_op _) | with_reducible refine GpY.tr ?_ (gd_clp gd_e _ _) | with_reducible refine GpY.tr ?_ (gd_tl _) | with_reducible refine GpY.tr ?_ (gd_sf _ _ _) | with_reducible refine GpY.tr ?_ (gd_cl _) | with_reducible refine GpY.tr ?_ (gd_pc _) | with_reducible refine GpY.tr ?_ (gd_st _) | with_reducible refine GpY.tr ?_ (gd_rw _) | with_reducible refine GpY.tr ?_ (gd_typ _) | with_reducible refine GpY.tr ?_ (gd_dcl _) | with_reducible refine GpY.tr ?_ (gd_va2 _) | with_reducible refine GpY.tr ?_ (gd_cnd _) | with_reducible refine GpY.tr ?_ (gd_tr1 _) | with_reducible refine GpY.tr ?_ (gd_tr2 (fun _ => gd_rw) _) | with_reducible refine GpY.tr ?_ (gd_tr3 (fun _ => gd_rw) _) | with_reducible refine GpY.tr ?_ (gd_fo1 _) | with_reducible refine GpY.tr ?_ (gd_fo2 _) | with_reducible refine GpY.tr ?_ (gd_fo3 _) | with_reducible refine GpY.tr ?_ (gd_fex _) | with_reducible refine GpY.tr ?_ (pg_var.1) | with_reducible refine GpY.tr ?_ (pg_cas.1) | exact GpY.rf))
    · dsimp only [Option.toList, List.cons_append, List.nil_append, Nat.beq, gI_sI, gI_sL, gI_sA, gI_sM, gL_sI, gL_sL, gL_sA, gL_sM, aI_sI, aI_sL, aI_sA, aI_sM, aL_sI, aL_sL, aL_sA, aL_sM]
      have hO2 := hS2.o (by decide)
      have h34_2 := hS2.1 34 (by decide)
      try dsimp only [Nat.beq, gI_sI, gI_sL, gI_sA, gI_sM, gL_sI, gL_sL, gL_sA, gL_sM, aI_sI, aI_sL, aI_sA, aI_sM, aL_sI, aL_sL, aL_sA, aL_sM] at h34_2
      refine ⟨fun h6 => absurd h6 (by decide), fun h6 => ?_⟩
      clear h6
      refine hB _ _ _ _ _ (fun m7 hm7 => ?_)
      dsimp only [ugo, uwp, ust, uct, rfd, Bcondition, Nat.beq, lv_args, rlk, rs1, rs2, rdl, rky, rcd, rno, rsw, Value.category, List.filter, List.take, List.drop, List.reverse, List.reverseAux, List.cons_append, List.nil_append, Option.toList, Int.toNat, Int.reduceToNat, if_pos, if_neg, reduceIte, ↓reduceIte, Nat.reduceAdd, Nat.reduceEqDiff, Nat.reduceBEq, beq_self_eq_true, Bool.not_true, Bool.not_false, Bool.and_true, Bool.and_false, Bool.true_and, Bool.false_and, gI_sI, gI_sL, gI_sA, gI_sM, gL_sI, gL_sL, gL_sA, gL_sM, aI_sI, aI_sL, aI_sA, aI_sM, aL_sI, aL_sL, aL_sA, aL_sM, Bcondition_0, Bcondition_9, Bcondition_16, Bcondition_25, Bcondition_29, Bcondition_30, oi_0, oi_1, oi_40, oi_41]; try dsimp only
      refine ⟨trivial, fun w8 τ8 hq8 => ?_⟩
      have hq8 := hq8 σ0 (accY s) n ⟨(by repeat (first | exact hX2 | refine XrR.i ?_ (by decide) | refine XrR.up ?_ (by omega) | refine XrR.a ?_ (by decide))), by omega⟩
      rcases hq8 with ⟨rfl, hF8⟩ | ⟨rfl, hX8, hs2_8⟩
      · dsimp only [Option.toList, List.cons_append, List.nil_append, Nat.beq, gI_sI, gI_sL, gI_sA, gI_sM, gL_sI, gL_sL, gL_sA, gL_sM, aI_sI, aI_sL, aI_sA, aI_sM, aL_sI, aL_sL, aL_sA, aL_sM]
        refine ⟨fun h9 => ?_, fun h9 => absurd h9 (by decide)⟩
        clear h9
        refine hB _ _ _ _ _ (fun m10 hm10 => ?_)
        dsimp only [ugo, uwp, ust, uct, rfd, Bcondition, Nat.beq, lv_args, rlk, rs1, rs2, rdl, rky, rcd, rno, rsw, Value.category, List.filter, List.take, List.drop, List.reverse, List.reverseAux, List.cons_append, List.nil_append, Option.toList, Int.toNat, Int.reduceToNat, if_pos, if_neg, reduceIte, ↓reduceIte, Nat.reduceAdd, Nat.reduceEqDiff, Nat.reduceBEq, beq_self_eq_true, Bool.not_true, Bool.not_false, Bool.and_true, Bool.and_false, Bool.true_and, Bool.false_and, gI_sI, gI_sL, gI_sA, gI_sM, gL_sI, gL_sL, gL_sA, gL_sM, aI_sI, aI_sL, aI_sA, aI_sM, aL_sI, aL_sL, aL_sA, aL_sM, Bcondition_0, Bcondition_9, Bcondition_16, Bcondition_25, Bcondition_29, Bcondition_30, oi_0, oi_1, oi_40, oi_41]; try dsimp only
        refine hB _ _ _ _ _ (fun m11 hm11 => ?_)
        dsimp only [ugo, uwp, ust, uct, rfd, Bcondition, Nat.beq, lv_args, rlk, rs1, rs2, rdl, rky, rcd, rno, rsw, Value.category, List.filter, List.take, List.drop, List.reverse, List.reverseAux, List.cons_append, List.nil_append, Option.toList, Int.toNat, Int.reduceToNat, if_pos, if_neg, reduceIte, ↓reduceIte, Nat.reduceAdd, Nat.reduceEqDiff, Nat.reduceBEq, beq_self_eq_true, Bool.not_true, Bool.not_false, Bool.and_true, Bool.and_false, Bool.true_and, Bool.false_and, gI_sI, gI_sL, gI_sA, gI_sM, gL_sI, gL_sL, gL_sA, gL_sM, aI_sI, aI_sL, aI_sA, aI_sM, aL_sI, aL_sL, aL_sA, aL_sM, Bcondition_0, Bcondition_9, Bcondition_16, Bcondition_25, Bcondition_29, Bcondition_30, oi_0, oi_1, oi_40, oi_41]; try dsimp only
        unfold Qv_condition
        try dsimp only
        refine Or.inl ⟨rfl, FlR.g hF8 ?_⟩
        unfold cndY
        rw [xp_y hc2]
        exact (by repeat (first | with_reducible exact GpY.rf | with_reducible refine GpY.tr ?_ (gd_fo _) | with_reducible refine GpY.tr ?_ (gd_ef _) | with_reducible refine GpY.tr ?_ (gd_cf _) | with_reducible refine GpY.tr ?_ (gd_wt _) | with_reducible refine GpY.tr ?_ (gd_xp _) | with_reducible refine GpY.tr ?_ (gd_acc _) | with_reducible refine GpY.tr ?_ (gd_rai _) | with_reducible refine GpY.tr ?_ (gd_e _) | with_reducible refine GpY.tr ?_ (gd_o _) | with_reducible refine GpY.tr ?_ (gd_c _) | with_reducible refine GpY.tr ?_ (gd_op _) | with_reducible refine GpY.tr ?_ (gd_clp gd_e _ _) | with_reducible refine GpY.tr ?_ (gd_tl _) | with_reducible refine GpY.tr ?_ (gd_sf _ _ _) | with_reducible refine GpY.tr ?_ (gd_cl _) | with_reducible refine GpY.tr ?_ (gd_pc _) | with_reducible refine GpY.tr ?_ (gd_st _) | with_reducible refine GpY.tr ?_ (gd_rw _) | with_reducible refine GpY.tr ?_ (gd_typ _) | with_reducible refine GpY.tr ?_ (gd_dcl _) | with_reducible refine GpY.tr ?_ (gd_va2 _) | with_reducible refine GpY.tr ?_ (gd_cnd _) | with_reducible refine GpY.tr ?_ (gd_tr1 _) | with_reducible refine GpY.tr ?_ (gd_tr2 (fun _ => gd_rw) _) | with_reducible refine GpY.tr ?_ (gd_tr3 (fun _ => gd_rw) _) | with_reducible refine GpY.tr ?_ (gd_fo1 _) | with_reducible refine GpY.tr ?_ (gd_fo2 _) | with_reducible refine GpY.tr ?_ (gd_fo3 _) | with_reducible refine GpY.tr ?_ (gd_fex _) | with_reducible refine GpY.tr ?_ (pg_var.1) | with_reducible refine GpY.tr ?_ (pg_cas.1) | exact GpY.rf))
      · dsimp only [Option.toList, List.cons_append, List.nil_append, Nat.beq, gI_sI, gI_sL, gI_sA, gI_sM, gL_sI, gL_sL, gL_sA, gL_sM, aI_sI, aI_sL, aI_sA, aI_sM, aL_sI, aL_sL, aL_sA, aL_sM]
        refine ⟨fun h12 => absurd h12 (by decide), fun h12 => ?_⟩
        clear h12
        refine hB _ _ _ _ _ (fun m13 hm13 => ?_)
        dsimp only [ugo, uwp, ust, uct, rfd, Bcondition, Nat.beq, lv_args, rlk, rs1, rs2, rdl, rky, rcd, rno, rsw, Value.category, List.filter, List.take, List.drop, List.reverse, List.reverseAux, List.cons_append, List.nil_append, Option.toList, Int.toNat, Int.reduceToNat, if_pos, if_neg, reduceIte, ↓reduceIte, Nat.reduceAdd, Nat.reduceEqDiff, Nat.reduceBEq, beq_self_eq_true, Bool.not_true, Bool.not_false, Bool.and_true, Bool.and_false, Bool.true_and, Bool.false_and, gI_sI, gI_sL, gI_sA, gI_sM, gL_sI, gL_sL, gL_sA, gL_sM, aI_sI, aI_sL, aI_sA, aI_sM, aL_sI, aL_sL, aL_sA, aL_sM, Bcondition_0, Bcondition_9, Bcondition_16, Bcondition_25, Bcondition_29, Bcondition_30, oi_0, oi_1, oi_40, oi_41]; try dsimp only
        refine ⟨trivial, fun w14 τ14 hq14 => ?_⟩
        have hq14 := hq14 σ0 (eY n (accY s)) n 1 ⟨(by repeat (first | exact hX8 | refine XrR.i ?_ (by decide) | refine XrR.up ?_ (by omega) | refine XrR.a ?_ (by decide))), by decide⟩
        rcases hq14 with ⟨rfl, hF14⟩ | ⟨rfl, hc14, hX14, hz14, hS14⟩
        · dsimp only [Option.toList, List.cons_append, List.nil_append, Nat.beq, gI_sI, gI_sL, gI_sA, gI_sM, gL_sI, gL_sL, gL_sA, gL_sM, aI_sI, aI_sL, aI_sA, aI_sM, aL_sI, aL_sL, aL_sA, aL_sM]
          refine ⟨fun h15 => ?_, fun h15 => absurd h15 (by decide)⟩
          clear h15
          refine hB _ _ _ _ _ (fun m16 hm16 => ?_)
          dsimp only [ugo, uwp, ust, uct, rfd, Bcondition, Nat.beq, lv_args, rlk, rs1, rs2, rdl, rky, rcd, rno, rsw, Value.category, List.filter, List.take, List.drop, List.reverse, List.reverseAux, List.cons_append, List.nil_append, Option.toList, Int.toNat, Int.reduceToNat, if_pos, if_neg, reduceIte, ↓reduceIte, Nat.reduceAdd, Nat.reduceEqDiff, Nat.reduceBEq, beq_self_eq_true, Bool.not_true, Bool.not_false, Bool.and_true, Bool.and_false, Bool.true_and, Bool.false_and, gI_sI, gI_sL, gI_sA, gI_sM, gL_sI, gL_sL, gL_sA, gL_sM, aI_sI, aI_sL, aI_sA, aI_sM, aL_sI, aL_sL, aL_sA, aL_sM, Bcondition_0, Bcondition_9, Bcondition_16, Bcondition_25, Bcondition_29, Bcondition_30, oi_0, oi_1, oi_40, oi_41]; try dsimp only
          refine hB _ _ _ _ _ (fun m17 hm17 => ?_)
          dsimp only [ugo, uwp, ust, uct, rfd, Bcondition, Nat.beq, lv_args, rlk, rs1, rs2, rdl, rky, rcd, rno, rsw, Value.category, List.filter, List.take, List.drop, List.reverse, List.reverseAux, List.cons_append, List.nil_append, Option.toList, Int.toNat, Int.reduceToNat, if_pos, if_neg, reduceIte, ↓reduceIte, Nat.reduceAdd, Nat.reduceEqDiff, Nat.reduceBEq, beq_self_eq_true, Bool.not_true, Bool.not_false, Bool.and_true, Bool.and_false, Bool.true_and, Bool.false_and, gI_sI, gI_sL, gI_sA, gI_sM, gL_sI, gL_sL, gL_sA, gL_sM, aI_sI, aI_sL, aI_sA, aI_sM, aL_sI, aL_sL, aL_sA, aL_sM, Bcondition_0, Bcondition_9, Bcondition_16, Bcondition_25, Bcondition_29, Bcondition_30, oi_0, oi_1, oi_40, oi_41]; try dsimp only
          unfold Qv_condition
          try dsimp only
          refine Or.inl ⟨rfl, FlR.g hF14 ?_⟩
          unfold cndY
          rw [xp_y hc2]
          exact (by repeat (first | with_reducible exact GpY.rf | with_reducible refine GpY.tr ?_ (gd_fo _) | with_reducible refine GpY.tr ?_ (gd_ef _) | with_reducible refine GpY.tr ?_ (gd_cf _) | with_reducible refine GpY.tr ?_ (gd_wt _) | with_reducible refine GpY.tr ?_ (gd_xp _) | with_reducible refine GpY.tr ?_ (gd_acc _) | with_reducible refine GpY.tr ?_ (gd_rai _) | with_reducible refine GpY.tr ?_ (gd_e _) | with_reducible refine GpY.tr ?_ (gd_o _) | with_reducible refine GpY.tr ?_ (gd_c _) | with_reducible refine GpY.tr ?_ (gd_op _) | with_reducible refine GpY.tr ?_ (gd_clp gd_e _ _) | with_reducible refine GpY.tr ?_ (gd_tl _) | with_reducible refine GpY.tr ?_ (gd_sf _ _ _) | with_reducible refine GpY.tr ?_ (gd_cl _) | with_reducible refine GpY.tr ?_ (gd_pc _) | with_reducible refine GpY.tr ?_ (gd_st _) | with_reducible refine GpY.tr ?_ (gd_rw _) | with_reducible refine GpY.tr ?_ (gd_typ _) | with_reducible refine GpY.tr ?_ (gd_dcl _) | with_reducible refine GpY.tr ?_ (gd_va2 _) | with_reducible refine GpY.tr ?_ (gd_cnd _) | with_reducible refine GpY.tr ?_ (gd_tr1 _) | with_reducible refine GpY.tr ?_ (gd_tr2 (fun _ => gd_rw) _) | with_reducible refine GpY.tr ?_ (gd_tr3 (fun _ => gd_rw) _) | with_reducible refine GpY.tr ?_ (gd_fo1 _) | with_reducible refine GpY.tr ?_ (gd_fo2 _) | with_reducible refine GpY.tr ?_ (gd_fo3 _) | with_reducible refine GpY.tr ?_ (gd_fex _) | with_reducible refine GpY.tr ?_ (pg_var.1) | with_reducible refine GpY.tr ?_ (pg_cas.1) | exact GpY.rf))
        · dsimp only [Option.toList, List.cons_append, List.nil_append, Nat.beq, gI_sI, gI_sL, gI_sA, gI_sM, gL_sI, gL_sL, gL_sA, gL_sM, aI_sI, aI_sL, aI_sA, aI_sM, aL_sI, aL_sL, aL_sA, aL_sM]
          have hO14 := hS14.o (by decide)
          have h34_14 := hS14.1 34 (by decide)
          try dsimp only [Nat.beq, gI_sI, gI_sL, gI_sA, gI_sM, gL_sI, gL_sL, gL_sA, gL_sM, aI_sI, aI_sL, aI_sA, aI_sM, aL_sI, aL_sL, aL_sA, aL_sM] at h34_14
          refine ⟨fun h18 => absurd h18 (by decide), fun h18 => ?_⟩
          clear h18
          refine hB _ _ _ _ _ (fun m19 hm19 => ?_)
          dsimp only [ugo, uwp, ust, uct, rfd, Bcondition, Nat.beq, lv_args, rlk, rs1, rs2, rdl, rky, rcd, rno, rsw, Value.category, List.filter, List.take, List.drop, List.reverse, List.reverseAux, List.cons_append, List.nil_append, Option.toList, Int.toNat, Int.reduceToNat, if_pos, if_neg, reduceIte, ↓reduceIte, Nat.reduceAdd, Nat.reduceEqDiff, Nat.reduceBEq, beq_self_eq_true, Bool.not_true, Bool.not_false, Bool.and_true, Bool.and_false, Bool.true_and, Bool.false_and, gI_sI, gI_sL, gI_sA, gI_sM, gL_sI, gL_sL, gL_sA, gL_sM, aI_sI, aI_sL, aI_sA, aI_sM, aL_sI, aL_sL, aL_sA, aL_sM, Bcondition_0, Bcondition_9, Bcondition_16, Bcondition_25, Bcondition_29, Bcondition_30, oi_0, oi_1, oi_40, oi_41]; try dsimp only
          refine hB _ _ _ _ _ (fun m20 hm20 => ?_)
          dsimp only [ugo, uwp, ust, uct, rfd, Bcondition, Nat.beq, lv_args, rlk, rs1, rs2, rdl, rky, rcd, rno, rsw, Value.category, List.filter, List.take, List.drop, List.reverse, List.reverseAux, List.cons_append, List.nil_append, Option.toList, Int.toNat, Int.reduceToNat, if_pos, if_neg, reduceIte, ↓reduceIte, Nat.reduceAdd, Nat.reduceEqDiff, Nat.reduceBEq, beq_self_eq_true, Bool.not_true, Bool.not_false, Bool.and_true, Bool.and_false, Bool.true_and, Bool.false_and, gI_sI, gI_sL, gI_sA, gI_sM, gL_sI, gL_sL, gL_sA, gL_sM, aI_sI, aI_sL, aI_sA, aI_sM, aL_sI, aL_sL, aL_sA, aL_sM, Bcondition_0, Bcondition_9, Bcondition_16, Bcondition_25, Bcondition_29, Bcondition_30, oi_0, oi_1, oi_40, oi_41]; try dsimp only
          unfold Qv_condition
          try dsimp only
          refine Or.inr ⟨rfl, ?_⟩
          unfold cndY
          rw [xp_y hc2, xp_y hc14]
          exact ⟨hX14, acc2.trans (hs2_8.trans acc2)⟩
  next => exact hP.elim
theorem w_condition : UMet 52 (fun _ _ => True) Qw_condition := fun A1 σ _ w τ h σ0 s n hP => v_condition σ0 s n A1 σ hP w τ h
