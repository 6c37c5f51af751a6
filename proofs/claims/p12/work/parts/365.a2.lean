/-! the reference judges: more helpers -/
theorem sg_n {a sg k m : Int} (h : (a, sg) ∈ sgT) (q : (k, m) ∈ sgT) : a = k ↔ sg = m := sgT_in _ h _ q
theorem ca_nr {t : Int} {v : Int64} (h : ¬ t = 0) : caT t v = nrT t v := if_neg h
theorem nd_t {e : TvT} {want : Int32} (h : want = 0) : ndT want e ↔ e.1 = 0 := ⟨fun q => q.elim (fun z => z.2) (fun z => absurd h z.1), fun q => Or.inl ⟨h, q⟩⟩
theorem nd_f {e : TvT} {want : Int32} (h : ¬ want = 0) : ndT want e ↔ nuT e.1 := ⟨fun q => q.elim (fun z => absurd z.1 h) (fun z => z.2), fun q => Or.inr ⟨h, q⟩⟩
theorem pr_t {e : TvT} {ei : Int32} (h : ¬ ei = 0) : prT ei e ↔ (e.1 = 0 ∨ nuT e.1) := ⟨fun q => q.elim (fun z => Or.inl z.2) Or.inr, fun q => q.elim (fun z => Or.inl ⟨h, z⟩) Or.inr⟩
theorem pr_f {e : TvT} {ei : Int32} (h : ei = 0) : prT ei e ↔ nuT e.1 := ⟨fun q => q.elim (fun z => absurd h z.1) id, Or.inr⟩
theorem sgr : ∀ p ∈ sgT, 22 ≤ p.2 → p.2 ≤ 38 → (p.2 = 34 ∧ p.1 = 43) ∨ (p.2 = 35 ∧ p.1 = 45) ∨ (p.2 = 36 ∧ p.1 = 42) ∨ (p.2 = 37 ∧ p.1 = 47) ∨ (p.2 = 38 ∧ p.1 = 37) ∨ (p.2 = 24 ∧ p.1 = 38) ∨ (p.2 = 22 ∧ p.1 = 124) ∨ (p.2 = 23 ∧ p.1 = 94) ∨ (p.2 = 31 ∧ p.1 = 304) ∨ (p.2 = 32 ∧ p.1 = 305) ∨ (p.2 = 33 ∧ p.1 = 306) ∨ (p.2 = 25 ∧ p.1 = 300) ∨ (p.2 = 26 ∧ p.1 = 301) ∨ (p.2 = 27 ∧ p.1 = 60) ∨ (p.2 = 29 ∧ p.1 = 62) ∨ (p.2 = 28 ∧ p.1 = 302) ∨ (p.2 = 30 ∧ p.1 = 303) := by decide
def Pv_wide : UP1 := fun A1 σ => match A1 with
  | [.int type] => True
  | _ => False
def Qv_wide : UQ1 := fun A1 σ w τ => match A1 with
  | [.int type] => σ = τ ∧ ∃ r : Int32, w = some (.int r) ∧ r.toInt = pmT type.toInt
  | _ => False
def Qw_wide : UQ1 := fun A1 σ w τ => Pv_wide A1 σ → Qv_wide A1 σ w τ
set_option maxRecDepth 100000 in
set_option maxHeartbeats 4000000 in
theorem v_wide : UMet 81 (Pv_wide) (Qv_wide) := by
  refine UMet.by Bwide [] rfl uc0 ?_
  intro A1 σ hP K hB hW
  unfold Pv_wide at hP
  split at hP
  next type =>
    intro n0
    refine hB _ _ _ _ _ (fun m1 hm1 => ?_)
    dsimp only [ugo, uwp, ust, uct, rfd, Bwide, Bwide_0, Nat.beq, lv_args, rlk, rs1, rs2, rdl, rky, rcd, rno, rsw, Value.category, List.filter, List.take, List.drop, List.reverse, List.reverseAux, List.cons_append, List.nil_append, Option.toList, Int.toNat, Int.reduceToNat, if_pos, if_neg, reduceIte, ↓reduceIte, Nat.reduceAdd, Nat.reduceEqDiff, Nat.reduceBEq, beq_self_eq_true, Bool.not_true, Bool.not_false, Bool.and_true, Bool.and_false, Bool.true_and, Bool.false_and, gI_sI, gI_sL, gI_sA, gI_sM, gL_sI, gL_sL, gL_sA, gL_sM, aI_sI, aI_sL, aI_sA, aI_sM, aL_sI, aL_sL, aL_sA, aL_sM, oi_4]; try dsimp only
    refine ⟨fun h2 => ?_, fun h2 => ?_⟩
    · have c2 : ¬ (type).toInt = 4 := fun q => h2 ((cI (rfl : (type).toInt = (type).toInt) (rfl : (4 : Int32).toInt = 4)).1.mpr q)
      refine hB _ _ _ _ _ (fun m3 hm3 => ?_)
      dsimp only [ugo, uwp, ust, uct, rfd, Bwide, Bwide_9, Nat.beq, lv_args, rlk, rs1, rs2, rdl, rky, rcd, rno, rsw, Value.category, List.filter, List.take, List.drop, List.reverse, List.reverseAux, List.cons_append, List.nil_append, Option.toList, Int.toNat, Int.reduceToNat, if_pos, if_neg, reduceIte, ↓reduceIte, Nat.reduceAdd, Nat.reduceEqDiff, Nat.reduceBEq, beq_self_eq_true, Bool.not_true, Bool.not_false, Bool.and_true, Bool.and_false, Bool.true_and, Bool.false_and, gI_sI, gI_sL, gI_sA, gI_sM, gL_sI, gL_sL, gL_sA, gL_sM, aI_sI, aI_sL, aI_sA, aI_sM, aL_sI, aL_sL, aL_sA, aL_sM, oi_3]; try dsimp only
      refine hB _ _ _ _ _ (fun m4 hm4 => ?_)
      dsimp only [ugo, uwp, ust, uct, rfd, Bwide, Bwide_10, Nat.beq, lv_args, rlk, rs1, rs2, rdl, rky, rcd, rno, rsw, Value.category, List.filter, List.take, List.drop, List.reverse, List.reverseAux, List.cons_append, List.nil_append, Option.toList, Int.toNat, Int.reduceToNat, if_pos, if_neg, reduceIte, ↓reduceIte, Nat.reduceAdd, Nat.reduceEqDiff, Nat.reduceBEq, beq_self_eq_true, Bool.not_true, Bool.not_false, Bool.and_true, Bool.and_false, Bool.true_and, Bool.false_and, gI_sI, gI_sL, gI_sA, gI_sM, gL_sI, gL_sL, gL_sA, gL_sM, aI_sI, aI_sL, aI_sA, aI_sM, aL_sI, aL_sL, aL_sA, aL_sM]; try dsimp only
      unfold Qv_wide
      try dsimp only
      refine ⟨rfl, _, rfl, ?_⟩
      unfold pmT
      first | (rw [if_pos (by omega)]; rfl) | (rw [if_neg (by omega)]; rfl)
    · have c2 : (type).toInt = 4 := (cI (rfl : (type).toInt = (type).toInt) (rfl : (4 : Int32).toInt = 4)).1.mp h2
      refine hB _ _ _ _ _ (fun m5 hm5 => ?_)
      dsimp only [ugo, uwp, ust, uct, rfd, Bwide, Bwide_5, Nat.beq, lv_args, rlk, rs1, rs2, rdl, rky, rcd, rno, rsw, Value.category, List.filter, List.take, List.drop, List.reverse, List.reverseAux, List.cons_append, List.nil_append, Option.toList, Int.toNat, Int.reduceToNat, if_pos, if_neg, reduceIte, ↓reduceIte, Nat.reduceAdd, Nat.reduceEqDiff, Nat.reduceBEq, beq_self_eq_true, Bool.not_true, Bool.not_false, Bool.and_true, Bool.and_false, Bool.true_and, Bool.false_and, gI_sI, gI_sL, gI_sA, gI_sM, gL_sI, gL_sL, gL_sA, gL_sM, aI_sI, aI_sL, aI_sA, aI_sM, aL_sI, aL_sL, aL_sA, aL_sM, oi_4]; try dsimp only
      refine hB _ _ _ _ _ (fun m6 hm6 => ?_)
      dsimp only [ugo, uwp, ust, uct, rfd, Bwide, Bwide_10, Nat.beq, lv_args, rlk, rs1, rs2, rdl, rky, rcd, rno, rsw, Value.category, List.filter, List.take, List.drop, List.reverse, List.reverseAux, List.cons_append, List.nil_append, Option.toList, Int.toNat, Int.reduceToNat, if_pos, if_neg, reduceIte, ↓reduceIte, Nat.reduceAdd, Nat.reduceEqDiff, Nat.reduceBEq, beq_self_eq_true, Bool.not_true, Bool.not_false, Bool.and_true, Bool.and_false, Bool.true_and, Bool.false_and, gI_sI, gI_sL, gI_sA, gI_sM, gL_sI, gL_sL, gL_sA, gL_sM, aI_sI, aI_sL, aI_sA, aI_sM, aL_sI, aL_sL, aL_sA, aL_sM]; try dsimp only
      unfold Qv_wide
      try dsimp only
      refine ⟨rfl, _, rfl, ?_⟩
      unfold pmT
      first | (rw [if_pos (by omega)]; rfl) | (rw [if_neg (by omega)]; rfl)
  next => exact hP.elim
theorem w_wide : UMet 81 (fun _ _ => True) Qw_wide := fun A1 σ _ w τ h hP => v_wide A1 σ hP w τ h
def Pv_isShift : UP1 := fun A1 σ => match A1 with
  | [.int s] => True
  | _ => False
def Qv_isShift : UQ1 := fun A1 σ w τ => match A1 with
  | [.int s] => σ = τ ∧ ∃ b : Int32, w = some (.int b) ∧ (¬ b = 0 ↔ ((s.toInt) = 304 ∨ (s.toInt) = 305 ∨ (s.toInt) = 306))
  | _ => False
def Qw_isShift : UQ1 := fun A1 σ w τ => Pv_isShift A1 σ → Qv_isShift A1 σ w τ
set_option maxRecDepth 100000 in
set_option maxHeartbeats 4000000 in
theorem v_isShift : UMet 93 (Pv_isShift) (Qv_isShift) := by
  refine UMet.by BisShift [] rfl uc0 ?_
  intro A1 σ hP K hB hW
  unfold Pv_isShift at hP
  split at hP
  next s =>
    intro n0
    refine hB _ _ _ _ _ (fun m1 hm1 => ?_)
    dsimp only [ugo, uwp, ust, uct, rfd, BisShift, BisShift_0, Nat.beq, lv_args, rlk, rs1, rs2, rdl, rky, rcd, rno, rsw, Value.category, List.filter, List.take, List.drop, List.reverse, List.reverseAux, List.cons_append, List.nil_append, Option.toList, Int.toNat, Int.reduceToNat, if_pos, if_neg, reduceIte, ↓reduceIte, Nat.reduceAdd, Nat.reduceEqDiff, Nat.reduceBEq, beq_self_eq_true, Bool.not_true, Bool.not_false, Bool.and_true, Bool.and_false, Bool.true_and, Bool.false_and, gI_sI, gI_sL, gI_sA, gI_sM, gL_sI, gL_sL, gL_sA, gL_sM, aI_sI, aI_sL, aI_sA, aI_sM, aL_sI, aL_sL, aL_sA, aL_sM, oi_304]; try dsimp only
    refine ⟨fun h2 => ?_, fun h2 => ?_⟩
    · have c2 : (s).toInt = 304 := (cI (rfl : (s).toInt = (s).toInt) (rfl : (304 : Int32).toInt = 304)).1.mp h2
      refine hB _ _ _ _ _ (fun m3 hm3 => ?_)
      dsimp only [ugo, uwp, ust, uct, rfd, BisShift, BisShift_21, Nat.beq, lv_args, rlk, rs1, rs2, rdl, rky, rcd, rno, rsw, Value.category, List.filter, List.take, List.drop, List.reverse, List.reverseAux, List.cons_append, List.nil_append, Option.toList, Int.toNat, Int.reduceToNat, if_pos, if_neg, reduceIte, ↓reduceIte, Nat.reduceAdd, Nat.reduceEqDiff, Nat.reduceBEq, beq_self_eq_true, Bool.not_true, Bool.not_false, Bool.and_true, Bool.and_false, Bool.true_and, Bool.false_and, gI_sI, gI_sL, gI_sA, gI_sM, gL_sI, gL_sL, gL_sA, gL_sM, aI_sI, aI_sL, aI_sA, aI_sM, aL_sI, aL_sL, aL_sA, aL_sM, oi_1]; try dsimp only
      refine hB _ _ _ _ _ (fun m4 hm4 => ?_)
      dsimp only [ugo, uwp, ust, uct, rfd, BisShift, BisShift_26, Nat.beq, lv_args, rlk, rs1, rs2, rdl, rky, rcd, rno, rsw, Value.category, List.filter, List.take, List.drop, List.reverse, List.reverseAux, List.cons_append, List.nil_append, Option.toList, Int.toNat, Int.reduceToNat, if_pos, if_neg, reduceIte, ↓reduceIte, Nat.reduceAdd, Nat.reduceEqDiff, Nat.reduceBEq, beq_self_eq_true, Bool.not_true, Bool.not_false, Bool.and_true, Bool.and_false, Bool.true_and, Bool.false_and, gI_sI, gI_sL, gI_sA, gI_sM, gL_sI, gL_sL, gL_sA, gL_sM, aI_sI, aI_sL, aI_sA, aI_sM, aL_sI, aL_sL, aL_sA, aL_sM]; try dsimp only
      unfold Qv_isShift
      try dsimp only
      exact ⟨rfl, 1, rfl, b01 (by omega)⟩
    · have c2 : ¬ (s).toInt = 304 := fun q => h2 ((cI (rfl : (s).toInt = (s).toInt) (rfl : (304 : Int32).toInt = 304)).1.mpr q)
      refine hB _ _ _ _ _ (fun m5 hm5 => ?_)
      dsimp only [ugo, uwp, ust, uct, rfd, BisShift, BisShift_7, Nat.beq, lv_args, rlk, rs1, rs2, rdl, rky, rcd, rno, rsw, Value.category, List.filter, List.take, List.drop, List.reverse, List.reverseAux, List.cons_append, List.nil_append, Option.toList, Int.toNat, Int.reduceToNat, if_pos, if_neg, reduceIte, ↓reduceIte, Nat.reduceAdd, Nat.reduceEqDiff, Nat.reduceBEq, beq_self_eq_true, Bool.not_true, Bool.not_false, Bool.and_true, Bool.and_false, Bool.true_and, Bool.false_and, gI_sI, gI_sL, gI_sA, gI_sM, gL_sI, gL_sL, gL_sA, gL_sM, aI_sI, aI_sL, aI_sA, aI_sM, aL_sI, aL_sL, aL_sA, aL_sM, oi_305]; try dsimp only
      refine ⟨fun h6 => ?_, fun h6 => ?_⟩
      · have c6 : (s).toInt = 305 := (cI (rfl : (s).toInt = (s).toInt) (rfl : (305 : Int32).toInt = 305)).1.mp h6
        refine hB _ _ _ _ _ (fun m7 hm7 => ?_)
        dsimp only [ugo, uwp, ust, uct, rfd, BisShift, BisShift_21, Nat.beq, lv_args, rlk, rs1, rs2, rdl, rky, rcd, rno, rsw, Value.category, List.filter, List.take, List.drop, List.reverse, List.reverseAux, List.cons_append, List.nil_append, Option.toList, Int.toNat, Int.reduceToNat, if_pos, if_neg, reduceIte, ↓reduceIte, Nat.reduceAdd, Nat.reduceEqDiff, Nat.reduceBEq, beq_self_eq_true, Bool.not_true, Bool.not_false, Bool.and_true, Bool.and_false, Bool.true_and, Bool.false_and, gI_sI, gI_sL, gI_sA, gI_sM, gL_sI, gL_sL, gL_sA, gL_sM, aI_sI, aI_sL, aI_sA, aI_sM, aL_sI, aL_sL, aL_sA, aL_sM, oi_1]; try dsimp only
        refine hB _ _ _ _ _ (fun m8 hm8 => ?_)
        dsimp only [ugo, uwp, ust, uct, rfd, BisShift, BisShift_26, Nat.beq, lv_args, rlk, rs1, rs2, rdl, rky, rcd, rno, rsw, Value.category, List.filter, List.take, List.drop, List.reverse, List.reverseAux, List.cons_append, List.nil_append, Option.toList, Int.toNat, Int.reduceToNat, if_pos, if_neg, reduceIte, ↓reduceIte, Nat.reduceAdd, Nat.reduceEqDiff, Nat.reduceBEq, beq_self_eq_true, Bool.not_true, Bool.not_false, Bool.and_true, Bool.and_false, Bool.true_and, Bool.false_and, gI_sI, gI_sL, gI_sA, gI_sM, gL_sI, gL_sL, gL_sA, gL_sM, aI_sI, aI_sL, aI_sA, aI_sM, aL_sI, aL_sL, aL_sA, aL_sM]; try dsimp only
        unfold Qv_isShift
        try dsimp only
        exact ⟨rfl, 1, rfl, b01 (by omega)⟩
      · have c6 : ¬ (s).toInt = 305 := fun q => h6 ((cI (rfl : (s).toInt = (s).toInt) (rfl : (305 : Int32).toInt = 305)).1.mpr q)
        refine hB _ _ _ _ _ (fun m9 hm9 => ?_)
        dsimp only [ugo, uwp, ust, uct, rfd, BisShift, BisShift_14, Nat.beq, lv_args, rlk, rs1, rs2, rdl, rky, rcd, rno, rsw, Value.category, List.filter, List.take, List.drop, List.reverse, List.reverseAux, List.cons_append, List.nil_append, Option.toList, Int.toNat, Int.reduceToNat, if_pos, if_neg, reduceIte, ↓reduceIte, Nat.reduceAdd, Nat.reduceEqDiff, Nat.reduceBEq, beq_self_eq_true, Bool.not_true, Bool.not_false, Bool.and_true, Bool.and_false, Bool.true_and, Bool.false_and, gI_sI, gI_sL, gI_sA, gI_sM, gL_sI, gL_sL, gL_sA, gL_sM, aI_sI, aI_sL, aI_sA, aI_sM, aL_sI, aL_sL, aL_sA, aL_sM, oi_306]; try dsimp only
        refine ⟨fun h10 => ?_, fun h10 => ?_⟩
        · have c10 : ¬ (s).toInt = 306 := fun q => h10 ((cI (rfl : (s).toInt = (s).toInt) (rfl : (306 : Int32).toInt = 306)).1.mpr q)
          refine hB _ _ _ _ _ (fun m11 hm11 => ?_)
          dsimp only [ugo, uwp, ust, uct, rfd, BisShift, BisShift_25, Nat.beq, lv_args, rlk, rs1, rs2, rdl, rky, rcd, rno, rsw, Value.category, List.filter, List.take, List.drop, List.reverse, List.reverseAux, List.cons_append, List.nil_append, Option.toList, Int.toNat, Int.reduceToNat, if_pos, if_neg, reduceIte, ↓reduceIte, Nat.reduceAdd, Nat.reduceEqDiff, Nat.reduceBEq, beq_self_eq_true, Bool.not_true, Bool.not_false, Bool.and_true, Bool.and_false, Bool.true_and, Bool.false_and, gI_sI, gI_sL, gI_sA, gI_sM, gL_sI, gL_sL, gL_sA, gL_sM, aI_sI, aI_sL, aI_sA, aI_sM, aL_sI, aL_sL, aL_sA, aL_sM, oi_0]; try dsimp only
          refine hB _ _ _ _ _ (fun m12 hm12 => ?_)
          dsimp only [ugo, uwp, ust, uct, rfd, BisShift, BisShift_26, Nat.beq, lv_args, rlk, rs1, rs2, rdl, rky, rcd, rno, rsw, Value.category, List.filter, List.take, List.drop, List.reverse, List.reverseAux, List.cons_append, List.nil_append, Option.toList, Int.toNat, Int.reduceToNat, if_pos, if_neg, reduceIte, ↓reduceIte, Nat.reduceAdd, Nat.reduceEqDiff, Nat.reduceBEq, beq_self_eq_true, Bool.not_true, Bool.not_false, Bool.and_true, Bool.and_false, Bool.true_and, Bool.false_and, gI_sI, gI_sL, gI_sA, gI_sM, gL_sI, gL_sL, gL_sA, gL_sM, aI_sI, aI_sL, aI_sA, aI_sM, aL_sI, aL_sL, aL_sA, aL_sM]; try dsimp only
          unfold Qv_isShift
          try dsimp only
          exact ⟨rfl, 0, rfl, b00 (by omega)⟩
        · have c10 : (s).toInt = 306 := (cI (rfl : (s).toInt = (s).toInt) (rfl : (306 : Int32).toInt = 306)).1.mp h10
          refine hB _ _ _ _ _ (fun m13 hm13 => ?_)
          dsimp only [ugo, uwp, ust, uct, rfd, BisShift, BisShift_21, Nat.beq, lv_args, rlk, rs1, rs2, rdl, rky, rcd, rno, rsw, Value.category, List.filter, List.take, List.drop, List.reverse, List.reverseAux, List.cons_append, List.nil_append, Option.toList, Int.toNat, Int.reduceToNat, if_pos, if_neg, reduceIte, ↓reduceIte, Nat.reduceAdd, Nat.reduceEqDiff, Nat.reduceBEq, beq_self_eq_true, Bool.not_true, Bool.not_false, Bool.and_true, Bool.and_false, Bool.true_and, Bool.false_and, gI_sI, gI_sL, gI_sA, gI_sM, gL_sI, gL_sL, gL_sA, gL_sM, aI_sI, aI_sL, aI_sA, aI_sM, aL_sI, aL_sL, aL_sA, aL_sM, oi_1]; try dsimp only
          refine hB _ _ _ _ _ (fun m14 hm14 => ?_)
          dsimp only [ugo, uwp, ust, uct, rfd, BisShift, BisShift_26, Nat.beq, lv_args, rlk, rs1, rs2, rdl, rky, rcd, rno, rsw, Value.category, List.filter, List.take, List.drop, List.reverse, List.reverseAux, List.cons_append, List.nil_append, Option.toList, Int.toNat, Int.reduceToNat, if_pos, if_neg, reduceIte, ↓reduceIte, Nat.reduceAdd, Nat.reduceEqDiff, Nat.reduceBEq, beq_self_eq_true, Bool.not_true, Bool.not_false, Bool.and_true, Bool.and_false, Bool.true_and, Bool.false_and, gI_sI, gI_sL, gI_sA, gI_sM, gL_sI, gL_sL, gL_sA, gL_sM, aI_sI, aI_sL, aI_sA, aI_sM, aL_sI, aL_sL, aL_sA, aL_sM]; try dsimp only
          unfold Qv_isShift
          try dsimp only
          exact ⟨rfl, 1, rfl, b01 (by omega)⟩
  next => exact hP.elim
theorem w_isShift : UMet 93 (fun _ _ => True) Qw_isShift := fun A1 σ _ w τ h hP => v_isShift A1 σ hP w τ h
def Pv_isBits : UP1 := fun A1 σ => match A1 with
  | [.int s] => True
  | _ => False
def Qv_isBits : UQ1 := fun A1 σ w τ => match A1 with
  | [.int s] => σ = τ ∧ ∃ b : Int32, w = some (.int b) ∧ (¬ b = 0 ↔ ((s.toInt) = 38 ∨ (s.toInt) = 124 ∨ (s.toInt) = 94))
  | _ => False
def Qw_isBits : UQ1 := fun A1 σ w τ => Pv_isBits A1 σ → Qv_isBits A1 σ w τ
set_option maxRecDepth 100000 in
set_option maxHeartbeats 4000000 in
theorem v_isBits : UMet 94 (Pv_isBits) (Qv_isBits) := by
  refine UMet.by BisBits [] rfl uc0 ?_
  intro A1 σ hP K hB hW
  unfold Pv_isBits at hP
  split at hP
  next s =>
    intro n0
    refine hB _ _ _ _ _ (fun m1 hm1 => ?_)
    dsimp only [ugo, uwp, ust, uct, rfd, BisBits, BisBits_0, Nat.beq, lv_args, rlk, rs1, rs2, rdl, rky, rcd, rno, rsw, Value.category, List.filter, List.take, List.drop, List.reverse, List.reverseAux, List.cons_append, List.nil_append, Option.toList, Int.toNat, Int.reduceToNat, if_pos, if_neg, reduceIte, ↓reduceIte, Nat.reduceAdd, Nat.reduceEqDiff, Nat.reduceBEq, beq_self_eq_true, Bool.not_true, Bool.not_false, Bool.and_true, Bool.and_false, Bool.true_and, Bool.false_and, gI_sI, gI_sL, gI_sA, gI_sM, gL_sI, gL_sL, gL_sA, gL_sM, aI_sI, aI_sL, aI_sA, aI_sM, aL_sI, aL_sL, aL_sA, aL_sM, oi_38]; try dsimp only
    refine ⟨fun h2 => ?_, fun h2 => ?_⟩
    · have c2 : (s).toInt = 38 := (cI (rfl : (s).toInt = (s).toInt) (rfl : (38 : Int32).toInt = 38)).1.mp h2
      refine hB _ _ _ _ _ (fun m3 hm3 => ?_)
      dsimp only [ugo, uwp, ust, uct, rfd, BisBits, BisBits_18, Nat.beq, lv_args, rlk, rs1, rs2, rdl, rky, rcd, rno, rsw, Value.category, List.filter, List.take, List.drop, List.reverse, List.reverseAux, List.cons_append, List.nil_append, Option.toList, Int.toNat, Int.reduceToNat, if_pos, if_neg, reduceIte, ↓reduceIte, Nat.reduceAdd, Nat.reduceEqDiff, Nat.reduceBEq, beq_self_eq_true, Bool.not_true, Bool.not_false, Bool.and_true, Bool.and_false, Bool.true_and, Bool.false_and, gI_sI, gI_sL, gI_sA, gI_sM, gL_sI, gL_sL, gL_sA, gL_sM, aI_sI, aI_sL, aI_sA, aI_sM, aL_sI, aL_sL, aL_sA, aL_sM, oi_1]; try dsimp only
      refine hB _ _ _ _ _ (fun m4 hm4 => ?_)
      dsimp only [ugo, uwp, ust, uct, rfd, BisBits, BisBits_23, Nat.beq, lv_args, rlk, rs1, rs2, rdl, rky, rcd, rno, rsw, Value.category, List.filter, List.take, List.drop, List.reverse, List.reverseAux, List.cons_append, List.nil_append, Option.toList, Int.toNat, Int.reduceToNat, if_pos, if_neg, reduceIte, ↓reduceIte, Nat.reduceAdd, Nat.reduceEqDiff, Nat.reduceBEq, beq_self_eq_true, Bool.not_true, Bool.not_false, Bool.and_true, Bool.and_false, Bool.true_and, Bool.false_and, gI_sI, gI_sL, gI_sA, gI_sM, gL_sI, gL_sL, gL_sA, gL_sM, aI_sI, aI_sL, aI_sA, aI_sM, aL_sI, aL_sL, aL_sA, aL_sM]; try dsimp only
      unfold Qv_isBits
      try dsimp only
      exact ⟨rfl, 1, rfl, b01 (by omega)⟩
    · have c2 : ¬ (s).toInt = 38 := fun q => h2 ((cI (rfl : (s).toInt = (s).toInt) (rfl : (38 : Int32).toInt = 38)).1.mpr q)
      refine hB _ _ _ _ _ (fun m5 hm5 => ?_)
      dsimp only [ugo, uwp, ust, uct, rfd, BisBits, BisBits_6, Nat.beq, lv_args, rlk, rs1, rs2, rdl, rky, rcd, rno, rsw, Value.category, List.filter, List.take, List.drop, List.reverse, List.reverseAux, List.cons_append, List.nil_append, Option.toList, Int.toNat, Int.reduceToNat, if_pos, if_neg, reduceIte, ↓reduceIte, Nat.reduceAdd, Nat.reduceEqDiff, Nat.reduceBEq, beq_self_eq_true, Bool.not_true, Bool.not_false, Bool.and_true, Bool.and_false, Bool.true_and, Bool.false_and, gI_sI, gI_sL, gI_sA, gI_sM, gL_sI, gL_sL, gL_sA, gL_sM, aI_sI, aI_sL, aI_sA, aI_sM, aL_sI, aL_sL, aL_sA, aL_sM, oi_124]; try dsimp only
      refine ⟨fun h6 => ?_, fun h6 => ?_⟩
      · have c6 : (s).toInt = 124 := (cI (rfl : (s).toInt = (s).toInt) (rfl : (124 : Int32).toInt = 124)).1.mp h6
        refine hB _ _ _ _ _ (fun m7 hm7 => ?_)
        dsimp only [ugo, uwp, ust, uct, rfd, BisBits, BisBits_18, Nat.beq, lv_args, rlk, rs1, rs2, rdl, rky, rcd, rno, rsw, Value.category, List.filter, List.take, List.drop, List.reverse, List.reverseAux, List.cons_append, List.nil_append, Option.toList, Int.toNat, Int.reduceToNat, if_pos, if_neg, reduceIte, ↓reduceIte, Nat.reduceAdd, Nat.reduceEqDiff, Nat.reduceBEq, beq_self_eq_true, Bool.not_true, Bool.not_false, Bool.and_true, Bool.and_false, Bool.true_and, Bool.false_and, gI_sI, gI_sL, gI_sA, gI_sM, gL_sI, gL_sL, gL_sA, gL_sM, aI_sI, aI_sL, aI_sA, aI_sM, aL_sI, aL_sL, aL_sA, aL_sM, oi_1]; try dsimp only
        refine hB _ _ _ _ _ (fun m8 hm8 => ?_)
        dsimp only [ugo, uwp, ust, uct, rfd, BisBits, BisBits_23, Nat.beq, lv_args, rlk, rs1, rs2, rdl, rky, rcd, rno, rsw, Value.category, List.filter, List.take, List.drop, List.reverse, List.reverseAux, List.cons_append, List.nil_append, Option.toList, Int.toNat, Int.reduceToNat, if_pos, if_neg, reduceIte, ↓reduceIte, Nat.reduceAdd, Nat.reduceEqDiff, Nat.reduceBEq, beq_self_eq_true, Bool.not_true, Bool.not_false, Bool.and_true, Bool.and_false, Bool.true_and, Bool.false_and, gI_sI, gI_sL, gI_sA, gI_sM, gL_sI, gL_sL, gL_sA, gL_sM, aI_sI, aI_sL, aI_sA, aI_sM, aL_sI, aL_sL, aL_sA, aL_sM]; try dsimp only
        unfold Qv_isBits
        try dsimp only
        exact ⟨rfl, 1, rfl, b01 (by omega)⟩
      · have c6 : ¬ (s).toInt = 124 := fun q => h6 ((cI (rfl : (s).toInt = (s).toInt) (rfl : (124 : Int32).toInt = 124)).1.mpr q)
        refine hB _ _ _ _ _ (fun m9 hm9 => ?_)
        dsimp only [ugo, uwp, ust, uct, rfd, BisBits, BisBits_12, Nat.beq, lv_args, rlk, rs1, rs2, rdl, rky, rcd, rno, rsw, Value.category, List.filter, List.take, List.drop, List.reverse, List.reverseAux, List.cons_append, List.nil_append, Option.toList, Int.toNat, Int.reduceToNat, if_pos, if_neg, reduceIte, ↓reduceIte, Nat.reduceAdd, Nat.reduceEqDiff, Nat.reduceBEq, beq_self_eq_true, Bool.not_true, Bool.not_false, Bool.and_true, Bool.and_false, Bool.true_and, Bool.false_and, gI_sI, gI_sL, gI_sA, gI_sM, gL_sI, gL_sL, gL_sA, gL_sM, aI_sI, aI_sL, aI_sA, aI_sM, aL_sI, aL_sL, aL_sA, aL_sM, oi_94]; try dsimp only
        refine ⟨fun h10 => ?_, fun h10 => ?_⟩
        · have c10 : ¬ (s).toInt = 94 := fun q => h10 ((cI (rfl : (s).toInt = (s).toInt) (rfl : (94 : Int32).toInt = 94)).1.mpr q)
          refine hB _ _ _ _ _ (fun m11 hm11 => ?_)
          dsimp only [ugo, uwp, ust, uct, rfd, BisBits, BisBits_22, Nat.beq, lv_args, rlk, rs1, rs2, rdl, rky, rcd, rno, rsw, Value.category, List.filter, List.take, List.drop, List.reverse, List.reverseAux, List.cons_append, List.nil_append, Option.toList, Int.toNat, Int.reduceToNat, if_pos, if_neg, reduceIte, ↓reduceIte, Nat.reduceAdd, Nat.reduceEqDiff, Nat.reduceBEq, beq_self_eq_true, Bool.not_true, Bool.not_false, Bool.and_true, Bool.and_false, Bool.true_and, Bool.false_and, gI_sI, gI_sL, gI_sA, gI_sM, gL_sI, gL_sL, gL_sA, gL_sM, aI_sI, aI_sL, aI_sA, aI_sM, aL_sI, aL_sL, aL_sA, aL_sM, oi_0]; try dsimp only
          refine hB _ _ _ _ _ (fun m12 hm12 => ?_)
          dsimp only [ugo, uwp, ust, uct, rfd, BisBits, BisBits_23, Nat.beq, lv_args, rlk, rs1, rs2, rdl, rky, rcd, rno, rsw, Value.category, List.filter, List.take, List.drop, List.reverse, List.reverseAux, List.cons_append, List.nil_append, Option.toList, Int.toNat, Int.reduceToNat, if_pos, if_neg, reduceIte, ↓reduceIte, Nat.reduceAdd, Nat.reduceEqDiff, Nat.reduceBEq, beq_self_eq_true, Bool.not_true, Bool.not_false, Bool.and_true, Bool.and_false, Bool.true_and, Bool.false_and, gI_sI, gI_sL, gI_sA, gI_sM, gL_sI, gL_sL, gL_sA, gL_sM, aI_sI, aI_sL, aI_sA, aI_sM, aL_sI, aL_sL, aL_sA, aL_sM]; try dsimp only
          unfold Qv_isBits
          try dsimp only
          exact ⟨rfl, 0, rfl, b00 (by omega)⟩
        · have c10 : (s).toInt = 94 := (cI (rfl : (s).toInt = (s).toInt) (rfl : (94 : Int32).toInt = 94)).1.mp h10
          refine hB _ _ _ _ _ (fun m13 hm13 => ?_)
          dsimp only [ugo, uwp, ust, uct, rfd, BisBits, BisBits_18, Nat.beq, lv_args, rlk, rs1, rs2, rdl, rky, rcd, rno, rsw, Value.category, List.filter, List.take, List.drop, List.reverse, List.reverseAux, List.cons_append, List.nil_append, Option.toList, Int.toNat, Int.reduceToNat, if_pos, if_neg, reduceIte, ↓reduceIte, Nat.reduceAdd, Nat.reduceEqDiff, Nat.reduceBEq, beq_self_eq_true, Bool.not_true, Bool.not_false, Bool.and_true, Bool.and_false, Bool.true_and, Bool.false_and, gI_sI, gI_sL, gI_sA, gI_sM, gL_sI, gL_sL, gL_sA, gL_sM, aI_sI, aI_sL, aI_sA, aI_sM, aL_sI, aL_sL, aL_sA, aL_sM, oi_1]; try dsimp only
          refine hB _ _ _ _ _ (fun m14 hm14 => ?_)
          dsimp only [ugo, uwp, ust, uct, rfd, BisBits, BisBits_23, Nat.beq, lv_args, rlk, rs1, rs2, rdl, rky, rcd, rno, rsw, Value.category, List.filter, List.take, List.drop, List.reverse, List.reverseAux, List.cons_append, List.nil_append, Option.toList, Int.toNat, Int.reduceToNat, if_pos, if_neg, reduceIte, ↓reduceIte, Nat.reduceAdd, Nat.reduceEqDiff, Nat.reduceBEq, beq_self_eq_true, Bool.not_true, Bool.not_false, Bool.and_true, Bool.and_false, Bool.true_and, Bool.false_and, gI_sI, gI_sL, gI_sA, gI_sM, gL_sI, gL_sL, gL_sA, gL_sM, aI_sI, aI_sL, aI_sA, aI_sM, aL_sI, aL_sL, aL_sA, aL_sM]; try dsimp only
          unfold Qv_isBits
          try dsimp only
          exact ⟨rfl, 1, rfl, b01 (by omega)⟩
  next => exact hP.elim
theorem w_isBits : UMet 94 (fun _ _ => True) Qw_isBits := fun A1 σ _ w τ h hP => v_isBits A1 σ hP w τ h
def Pv_isHeld : UP1 := fun A1 σ => match A1 with
  | [.int s, .int type] => True
  | _ => False
def Qv_isHeld : UQ1 := fun A1 σ w τ => match A1 with
  | [.int s, .int type] => σ = τ ∧ ∃ b : Int32, w = some (.int b) ∧ ∀ e, TeR σ s.toNatClampNeg e → (¬ b = 0 ↔ (smT type.toInt ∧ e.1 = 3 ∧ hlT e type.toInt = true))
  | _ => False
def Qw_isHeld : UQ1 := fun A1 σ w τ => Pv_isHeld A1 σ → Qv_isHeld A1 σ w τ
set_option maxRecDepth 100000 in
set_option maxHeartbeats 4000000 in
theorem v_isHeld : UMet 99 (Pv_isHeld) (Qv_isHeld) := by
  refine UMet.by BisHeld [(74, (fun _ _ => True), Qw_holdsValue)] rfl (ucc w_holdsValue uc0) ?_
  intro A1 σ hP K hB hW
  unfold Pv_isHeld at hP
  split at hP
  next s type =>
    intro n0
    refine hB _ _ _ _ _ (fun m1 hm1 => ?_)
    dsimp only [ugo, uwp, ust, uct, rfd, BisHeld, BisHeld_0, Nat.beq, lv_args, rlk, rs1, rs2, rdl, rky, rcd, rno, rsw, Value.category, List.filter, List.take, List.drop, List.reverse, List.reverseAux, List.cons_append, List.nil_append, Option.toList, Int.toNat, Int.reduceToNat, if_pos, if_neg, reduceIte, ↓reduceIte, Nat.reduceAdd, Nat.reduceEqDiff, Nat.reduceBEq, beq_self_eq_true, Bool.not_true, Bool.not_false, Bool.and_true, Bool.and_false, Bool.true_and, Bool.false_and, gI_sI, gI_sL, gI_sA, gI_sM, gL_sI, gL_sL, gL_sA, gL_sM, aI_sI, aI_sL, aI_sA, aI_sM, aL_sI, aL_sL, aL_sA, aL_sM, oi_1]; try dsimp only
    refine ⟨fun h2 => ?_, fun h2 => ?_⟩
    · have c2 : (type).toInt = 1 := (cI (rfl : (type).toInt = (type).toInt) (rfl : (1 : Int32).toInt = 1)).1.mp h2
      refine hB _ _ _ _ _ (fun m3 hm3 => ?_)
      dsimp only [ugo, uwp, ust, uct, rfd, BisHeld, BisHeld_10, Nat.beq, lv_args, rlk, rs1, rs2, rdl, rky, rcd, rno, rsw, Value.category, List.filter, List.take, List.drop, List.reverse, List.reverseAux, List.cons_append, List.nil_append, Option.toList, Int.toNat, Int.reduceToNat, if_pos, if_neg, reduceIte, ↓reduceIte, Nat.reduceAdd, Nat.reduceEqDiff, Nat.reduceBEq, beq_self_eq_true, Bool.not_true, Bool.not_false, Bool.and_true, Bool.and_false, Bool.true_and, Bool.false_and, gI_sI, gI_sL, gI_sA, gI_sM, gL_sI, gL_sL, gL_sA, gL_sM, aI_sI, aI_sL, aI_sA, aI_sM, aL_sI, aL_sL, aL_sA, aL_sM, oi_3]; try dsimp only
      intro p4
      refine ⟨fun h5 => ?_, fun h5 => ?_⟩
      · have c5 : ¬ (aI σ 70 (s).toNatClampNeg).toInt = 3 := fun q => h5 ((cI (rfl : (aI σ 70 (s).toNatClampNeg).toInt = (aI σ 70 (s).toNatClampNeg).toInt) (rfl : (3 : Int32).toInt = 3)).1.mpr q)
        refine hB _ _ _ _ _ (fun m6 hm6 => ?_)
        dsimp only [ugo, uwp, ust, uct, rfd, BisHeld, BisHeld_47, Nat.beq, lv_args, rlk, rs1, rs2, rdl, rky, rcd, rno, rsw, Value.category, List.filter, List.take, List.drop, List.reverse, List.reverseAux, List.cons_append, List.nil_append, Option.toList, Int.toNat, Int.reduceToNat, if_pos, if_neg, reduceIte, ↓reduceIte, Nat.reduceAdd, Nat.reduceEqDiff, Nat.reduceBEq, beq_self_eq_true, Bool.not_true, Bool.not_false, Bool.and_true, Bool.and_false, Bool.true_and, Bool.false_and, gI_sI, gI_sL, gI_sA, gI_sM, gL_sI, gL_sL, gL_sA, gL_sM, aI_sI, aI_sL, aI_sA, aI_sM, aL_sI, aL_sL, aL_sA, aL_sM, oi_0]; try dsimp only
        refine hB _ _ _ _ _ (fun m7 hm7 => ?_)
        dsimp only [ugo, uwp, ust, uct, rfd, BisHeld, BisHeld_48, Nat.beq, lv_args, rlk, rs1, rs2, rdl, rky, rcd, rno, rsw, Value.category, List.filter, List.take, List.drop, List.reverse, List.reverseAux, List.cons_append, List.nil_append, Option.toList, Int.toNat, Int.reduceToNat, if_pos, if_neg, reduceIte, ↓reduceIte, Nat.reduceAdd, Nat.reduceEqDiff, Nat.reduceBEq, beq_self_eq_true, Bool.not_true, Bool.not_false, Bool.and_true, Bool.and_false, Bool.true_and, Bool.false_and, gI_sI, gI_sL, gI_sA, gI_sM, gL_sI, gL_sL, gL_sA, gL_sM, aI_sI, aI_sL, aI_sA, aI_sM, aL_sI, aL_sL, aL_sA, aL_sM]; try dsimp only
        unfold Qv_isHeld
        try dsimp only
        refine ⟨rfl, 0, rfl, fun e he => ?_⟩
        have e1 := he.1
        have e2 := @ft_hv σ _ e type.toInt he
        refine b00 (fun q => ?_)
        obtain ⟨q1, q2, q3⟩ := q
        have q4 := (e2 q1).mpr q3
        first | omega | exact q4.1 (by assumption) | exact (by assumption : ¬ hvT _ _) q4.2
      · have c5 : (aI σ 70 (s).toNatClampNeg).toInt = 3 := (cI (rfl : (aI σ 70 (s).toNatClampNeg).toInt = (aI σ 70 (s).toNatClampNeg).toInt) (rfl : (3 : Int32).toInt = 3)).1.mp h5
        refine hB _ _ _ _ _ (fun m8 hm8 => ?_)
        dsimp only [ugo, uwp, ust, uct, rfd, BisHeld, BisHeld_20, Nat.beq, lv_args, rlk, rs1, rs2, rdl, rky, rcd, rno, rsw, Value.category, List.filter, List.take, List.drop, List.reverse, List.reverseAux, List.cons_append, List.nil_append, Option.toList, Int.toNat, Int.reduceToNat, if_pos, if_neg, reduceIte, ↓reduceIte, Nat.reduceAdd, Nat.reduceEqDiff, Nat.reduceBEq, beq_self_eq_true, Bool.not_true, Bool.not_false, Bool.and_true, Bool.and_false, Bool.true_and, Bool.false_and, gI_sI, gI_sL, gI_sA, gI_sM, gL_sI, gL_sL, gL_sA, gL_sM, aI_sI, aI_sL, aI_sA, aI_sM, aL_sI, aL_sL, aL_sA, aL_sM]; try dsimp only
        intro p9
        refine ⟨fun h10 => ?_, fun h10 => ?_⟩
        · refine hB _ _ _ _ _ (fun m11 hm11 => ?_)
          dsimp only [ugo, uwp, ust, uct, rfd, BisHeld, BisHeld_47, Nat.beq, lv_args, rlk, rs1, rs2, rdl, rky, rcd, rno, rsw, Value.category, List.filter, List.take, List.drop, List.reverse, List.reverseAux, List.cons_append, List.nil_append, Option.toList, Int.toNat, Int.reduceToNat, if_pos, if_neg, reduceIte, ↓reduceIte, Nat.reduceAdd, Nat.reduceEqDiff, Nat.reduceBEq, beq_self_eq_true, Bool.not_true, Bool.not_false, Bool.and_true, Bool.and_false, Bool.true_and, Bool.false_and, gI_sI, gI_sL, gI_sA, gI_sM, gL_sI, gL_sL, gL_sA, gL_sM, aI_sI, aI_sL, aI_sA, aI_sM, aL_sI, aL_sL, aL_sA, aL_sM, oi_0]; try dsimp only
          refine hB _ _ _ _ _ (fun m12 hm12 => ?_)
          dsimp only [ugo, uwp, ust, uct, rfd, BisHeld, BisHeld_48, Nat.beq, lv_args, rlk, rs1, rs2, rdl, rky, rcd, rno, rsw, Value.category, List.filter, List.take, List.drop, List.reverse, List.reverseAux, List.cons_append, List.nil_append, Option.toList, Int.toNat, Int.reduceToNat, if_pos, if_neg, reduceIte, ↓reduceIte, Nat.reduceAdd, Nat.reduceEqDiff, Nat.reduceBEq, beq_self_eq_true, Bool.not_true, Bool.not_false, Bool.and_true, Bool.and_false, Bool.true_and, Bool.false_and, gI_sI, gI_sL, gI_sA, gI_sM, gL_sI, gL_sL, gL_sA, gL_sM, aI_sI, aI_sL, aI_sA, aI_sM, aL_sI, aL_sL, aL_sA, aL_sM]; try dsimp only
          unfold Qv_isHeld
          try dsimp only
          refine ⟨rfl, 0, rfl, fun e he => ?_⟩
          have e1 := he.1
          have e2 := @ft_hv σ _ e type.toInt he
          refine b00 (fun q => ?_)
          obtain ⟨q1, q2, q3⟩ := q
          have q4 := (e2 q1).mpr q3
          first | omega | exact q4.1 (by assumption) | exact (by assumption : ¬ hvT _ _) q4.2
        · refine hB _ _ _ _ _ (fun m13 hm13 => ?_)
          dsimp only [ugo, uwp, ust, uct, rfd, BisHeld, BisHeld_29, Nat.beq, lv_args, rlk, rs1, rs2, rdl, rky, rcd, rno, rsw, Value.category, List.filter, List.take, List.drop, List.reverse, List.reverseAux, List.cons_append, List.nil_append, Option.toList, Int.toNat, Int.reduceToNat, if_pos, if_neg, reduceIte, ↓reduceIte, Nat.reduceAdd, Nat.reduceEqDiff, Nat.reduceBEq, beq_self_eq_true, Bool.not_true, Bool.not_false, Bool.and_true, Bool.and_false, Bool.true_and, Bool.false_and, gI_sI, gI_sL, gI_sA, gI_sM, gL_sI, gL_sL, gL_sA, gL_sM, aI_sI, aI_sL, aI_sA, aI_sM, aL_sI, aL_sL, aL_sA, aL_sM]; try dsimp only
          intro p14
          refine ⟨trivial, fun w15 τ15 hq15 => ?_⟩
          obtain ⟨rfl, b15, rfl, hb15⟩ := hq15 trivial
          try rw [show (type).toInt = (type).toInt from (rfl : (type).toInt = (type).toInt)] at hb15
          have hb15 : ¬ b15 = 0 ↔ hvT ((type).toInt) ((aL σ 72) (s).toNatClampNeg) := hb15
          dsimp only [Option.toList, List.cons_append, List.nil_append, Nat.beq, gI_sI, gI_sL, gI_sA, gI_sM, gL_sI, gL_sL, gL_sA, gL_sM, aI_sI, aI_sL, aI_sA, aI_sM, aL_sI, aL_sL, aL_sA, aL_sM]
          refine ⟨fun h16 => ?_, fun h16 => ?_⟩
          · have c16 : ¬ (hvT ((type).toInt) ((aL σ 72) (s).toNatClampNeg)) := fun q => (hb15).mpr q h16
            refine hB _ _ _ _ _ (fun m17 hm17 => ?_)
            dsimp only [ugo, uwp, ust, uct, rfd, BisHeld, BisHeld_47, Nat.beq, lv_args, rlk, rs1, rs2, rdl, rky, rcd, rno, rsw, Value.category, List.filter, List.take, List.drop, List.reverse, List.reverseAux, List.cons_append, List.nil_append, Option.toList, Int.toNat, Int.reduceToNat, if_pos, if_neg, reduceIte, ↓reduceIte, Nat.reduceAdd, Nat.reduceEqDiff, Nat.reduceBEq, beq_self_eq_true, Bool.not_true, Bool.not_false, Bool.and_true, Bool.and_false, Bool.true_and, Bool.false_and, gI_sI, gI_sL, gI_sA, gI_sM, gL_sI, gL_sL, gL_sA, gL_sM, aI_sI, aI_sL, aI_sA, aI_sM, aL_sI, aL_sL, aL_sA, aL_sM, oi_0]; try dsimp only
            refine hB _ _ _ _ _ (fun m18 hm18 => ?_)
            dsimp only [ugo, uwp, ust, uct, rfd, BisHeld, BisHeld_48, Nat.beq, lv_args, rlk, rs1, rs2, rdl, rky, rcd, rno, rsw, Value.category, List.filter, List.take, List.drop, List.reverse, List.reverseAux, List.cons_append, List.nil_append, Option.toList, Int.toNat, Int.reduceToNat, if_pos, if_neg, reduceIte, ↓reduceIte, Nat.reduceAdd, Nat.reduceEqDiff, Nat.reduceBEq, beq_self_eq_true, Bool.not_true, Bool.not_false, Bool.and_true, Bool.and_false, Bool.true_and, Bool.false_and, gI_sI, gI_sL, gI_sA, gI_sM, gL_sI, gL_sL, gL_sA, gL_sM, aI_sI, aI_sL, aI_sA, aI_sM, aL_sI, aL_sL, aL_sA, aL_sM]; try dsimp only
            unfold Qv_isHeld
            try dsimp only
            refine ⟨rfl, 0, rfl, fun e he => ?_⟩
            have e1 := he.1
            have e2 := @ft_hv σ _ e type.toInt he
            refine b00 (fun q => ?_)
            obtain ⟨q1, q2, q3⟩ := q
            have q4 := (e2 q1).mpr q3
            first | omega | exact q4.1 (by assumption) | exact (by assumption : ¬ hvT _ _) q4.2
          · have c16 : hvT ((type).toInt) ((aL σ 72) (s).toNatClampNeg) := (hb15).mp h16
            refine hB _ _ _ _ _ (fun m19 hm19 => ?_)
            dsimp only [ugo, uwp, ust, uct, rfd, BisHeld, BisHeld_43, Nat.beq, lv_args, rlk, rs1, rs2, rdl, rky, rcd, rno, rsw, Value.category, List.filter, List.take, List.drop, List.reverse, List.reverseAux, List.cons_append, List.nil_append, Option.toList, Int.toNat, Int.reduceToNat, if_pos, if_neg, reduceIte, ↓reduceIte, Nat.reduceAdd, Nat.reduceEqDiff, Nat.reduceBEq, beq_self_eq_true, Bool.not_true, Bool.not_false, Bool.and_true, Bool.and_false, Bool.true_and, Bool.false_and, gI_sI, gI_sL, gI_sA, gI_sM, gL_sI, gL_sL, gL_sA, gL_sM, aI_sI, aI_sL, aI_sA, aI_sM, aL_sI, aL_sL, aL_sA, aL_sM, oi_1]; try dsimp only
            refine hB _ _ _ _ _ (fun m20 hm20 => ?_)
            dsimp only [ugo, uwp, ust, uct, rfd, BisHeld, BisHeld_48, Nat.beq, lv_args, rlk, rs1, rs2, rdl, rky, rcd, rno, rsw, Value.category, List.filter, List.take, List.drop, List.reverse, List.reverseAux, List.cons_append, List.nil_append, Option.toList, Int.toNat, Int.reduceToNat, if_pos, if_neg, reduceIte, ↓reduceIte, Nat.reduceAdd, Nat.reduceEqDiff, Nat.reduceBEq, beq_self_eq_true, Bool.not_true, Bool.not_false, Bool.and_true, Bool.and_false, Bool.true_and, Bool.false_and, gI_sI, gI_sL, gI_sA, gI_sM, gL_sI, gL_sL, gL_sA, gL_sM, aI_sI, aI_sL, aI_sA, aI_sM, aL_sI, aL_sL, aL_sA, aL_sM]; try dsimp only
            unfold Qv_isHeld
            try dsimp only
            refine ⟨rfl, 1, rfl, fun e he => ?_⟩
            have e1 := he.1
            have e2 := @ft_hv σ _ e type.toInt he
            exact b01 ⟨by omega, by omega, (e2 (by omega)).mp ⟨by assumption, by assumption⟩⟩
    · have c2 : ¬ (type).toInt = 1 := fun q => h2 ((cI (rfl : (type).toInt = (type).toInt) (rfl : (1 : Int32).toInt = 1)).1.mpr q)
      refine hB _ _ _ _ _ (fun m21 hm21 => ?_)
      dsimp only [ugo, uwp, ust, uct, rfd, BisHeld, BisHeld_5, Nat.beq, lv_args, rlk, rs1, rs2, rdl, rky, rcd, rno, rsw, Value.category, List.filter, List.take, List.drop, List.reverse, List.reverseAux, List.cons_append, List.nil_append, Option.toList, Int.toNat, Int.reduceToNat, if_pos, if_neg, reduceIte, ↓reduceIte, Nat.reduceAdd, Nat.reduceEqDiff, Nat.reduceBEq, beq_self_eq_true, Bool.not_true, Bool.not_false, Bool.and_true, Bool.and_false, Bool.true_and, Bool.false_and, gI_sI, gI_sL, gI_sA, gI_sM, gL_sI, gL_sL, gL_sA, gL_sM, aI_sI, aI_sL, aI_sA, aI_sM, aL_sI, aL_sL, aL_sA, aL_sM, oi_2]; try dsimp only
      refine ⟨fun h22 => ?_, fun h22 => ?_⟩
      · have c22 : ¬ (type).toInt = 2 := fun q => h22 ((cI (rfl : (type).toInt = (type).toInt) (rfl : (2 : Int32).toInt = 2)).1.mpr q)
        refine hB _ _ _ _ _ (fun m23 hm23 => ?_)
        dsimp only [ugo, uwp, ust, uct, rfd, BisHeld, BisHeld_47, Nat.beq, lv_args, rlk, rs1, rs2, rdl, rky, rcd, rno, rsw, Value.category, List.filter, List.take, List.drop, List.reverse, List.reverseAux, List.cons_append, List.nil_append, Option.toList, Int.toNat, Int.reduceToNat, if_pos, if_neg, reduceIte, ↓reduceIte, Nat.reduceAdd, Nat.reduceEqDiff, Nat.reduceBEq, beq_self_eq_true, Bool.not_true, Bool.not_false, Bool.and_true, Bool.and_false, Bool.true_and, Bool.false_and, gI_sI, gI_sL, gI_sA, gI_sM, gL_sI, gL_sL, gL_sA, gL_sM, aI_sI, aI_sL, aI_sA, aI_sM, aL_sI, aL_sL, aL_sA, aL_sM, oi_0]; try dsimp only
        refine hB _ _ _ _ _ (fun m24 hm24 => ?_)
        dsimp only [ugo, uwp, ust, uct, rfd, BisHeld, BisHeld_48, Nat.beq, lv_args, rlk, rs1, rs2, rdl, rky, rcd, rno, rsw, Value.category, List.filter, List.take, List.drop, List.reverse, List.reverseAux, List.cons_append, List.nil_append, Option.toList, Int.toNat, Int.reduceToNat, if_pos, if_neg, reduceIte, ↓reduceIte, Nat.reduceAdd, Nat.reduceEqDiff, Nat.reduceBEq, beq_self_eq_true, Bool.not_true, Bool.not_false, Bool.and_true, Bool.and_false, Bool.true_and, Bool.false_and, gI_sI, gI_sL, gI_sA, gI_sM, gL_sI, gL_sL, gL_sA, gL_sM, aI_sI, aI_sL, aI_sA, aI_sM, aL_sI, aL_sL, aL_sA, aL_sM]; try dsimp only
        unfold Qv_isHeld
        try dsimp only
        refine ⟨rfl, 0, rfl, fun e he => ?_⟩
        have e1 := he.1
        have e2 := @ft_hv σ _ e type.toInt he
        refine b00 (fun q => ?_)
        obtain ⟨q1, q2, q3⟩ := q
        have q4 := (e2 q1).mpr q3
        first | omega | exact q4.1 (by assumption) | exact (by assumption : ¬ hvT _ _) q4.2
      · have c22 : (type).toInt = 2 := (cI (rfl : (type).toInt = (type).toInt) (rfl : (2 : Int32).toInt = 2)).1.mp h22
        refine hB _ _ _ _ _ (fun m25 hm25 => ?_)
        dsimp only [ugo, uwp, ust, uct, rfd, BisHeld, BisHeld_10, Nat.beq, lv_args, rlk, rs1, rs2, rdl, rky, rcd, rno, rsw, Value.category, List.filter, List.take, List.drop, List.reverse, List.reverseAux, List.cons_append, List.nil_append, Option.toList, Int.toNat, Int.reduceToNat, if_pos, if_neg, reduceIte, ↓reduceIte, Nat.reduceAdd, Nat.reduceEqDiff, Nat.reduceBEq, beq_self_eq_true, Bool.not_true, Bool.not_false, Bool.and_true, Bool.and_false, Bool.true_and, Bool.false_and, gI_sI, gI_sL, gI_sA, gI_sM, gL_sI, gL_sL, gL_sA, gL_sM, aI_sI, aI_sL, aI_sA, aI_sM, aL_sI, aL_sL, aL_sA, aL_sM, oi_3]; try dsimp only
        intro p26
        refine ⟨fun h27 => ?_, fun h27 => ?_⟩
        · have c27 : ¬ (aI σ 70 (s).toNatClampNeg).toInt = 3 := fun q => h27 ((cI (rfl : (aI σ 70 (s).toNatClampNeg).toInt = (aI σ 70 (s).toNatClampNeg).toInt) (rfl : (3 : Int32).toInt = 3)).1.mpr q)
          refine hB _ _ _ _ _ (fun m28 hm28 => ?_)
          dsimp only [ugo, uwp, ust, uct, rfd, BisHeld, BisHeld_47, Nat.beq, lv_args, rlk, rs1, rs2, rdl, rky, rcd, rno, rsw, Value.category, List.filter, List.take, List.drop, List.reverse, List.reverseAux, List.cons_append, List.nil_append, Option.toList, Int.toNat, Int.reduceToNat, if_pos, if_neg, reduceIte, ↓reduceIte, Nat.reduceAdd, Nat.reduceEqDiff, Nat.reduceBEq, beq_self_eq_true, Bool.not_true, Bool.not_false, Bool.and_true, Bool.and_false, Bool.true_and, Bool.false_and, gI_sI, gI_sL, gI_sA, gI_sM, gL_sI, gL_sL, gL_sA, gL_sM, aI_sI, aI_sL, aI_sA, aI_sM, aL_sI, aL_sL, aL_sA, aL_sM, oi_0]; try dsimp only
          refine hB _ _ _ _ _ (fun m29 hm29 => ?_)
          dsimp only [ugo, uwp, ust, uct, rfd, BisHeld, BisHeld_48, Nat.beq, lv_args, rlk, rs1, rs2, rdl, rky, rcd, rno, rsw, Value.category, List.filter, List.take, List.drop, List.reverse, List.reverseAux, List.cons_append, List.nil_append, Option.toList, Int.toNat, Int.reduceToNat, if_pos, if_neg, reduceIte, ↓reduceIte, Nat.reduceAdd, Nat.reduceEqDiff, Nat.reduceBEq, beq_self_eq_true, Bool.not_true, Bool.not_false, Bool.and_true, Bool.and_false, Bool.true_and, Bool.false_and, gI_sI, gI_sL, gI_sA, gI_sM, gL_sI, gL_sL, gL_sA, gL_sM, aI_sI, aI_sL, aI_sA, aI_sM, aL_sI, aL_sL, aL_sA, aL_sM]; try dsimp only
          unfold Qv_isHeld
          try dsimp only
          refine ⟨rfl, 0, rfl, fun e he => ?_⟩
          have e1 := he.1
          have e2 := @ft_hv σ _ e type.toInt he
          refine b00 (fun q => ?_)
          obtain ⟨q1, q2, q3⟩ := q
          have q4 := (e2 q1).mpr q3
          first | omega | exact q4.1 (by assumption) | exact (by assumption : ¬ hvT _ _) q4.2
        · have c27 : (aI σ 70 (s).toNatClampNeg).toInt = 3 := (cI (rfl : (aI σ 70 (s).toNatClampNeg).toInt = (aI σ 70 (s).toNatClampNeg).toInt) (rfl : (3 : Int32).toInt = 3)).1.mp h27
          refine hB _ _ _ _ _ (fun m30 hm30 => ?_)
          dsimp only [ugo, uwp, ust, uct, rfd, BisHeld, BisHeld_20, Nat.beq, lv_args, rlk, rs1, rs2, rdl, rky, rcd, rno, rsw, Value.category, List.filter, List.take, List.drop, List.reverse, List.reverseAux, List.cons_append, List.nil_append, Option.toList, Int.toNat, Int.reduceToNat, if_pos, if_neg, reduceIte, ↓reduceIte, Nat.reduceAdd, Nat.reduceEqDiff, Nat.reduceBEq, beq_self_eq_true, Bool.not_true, Bool.not_false, Bool.and_true, Bool.and_false, Bool.true_and, Bool.false_and, gI_sI, gI_sL, gI_sA, gI_sM, gL_sI, gL_sL, gL_sA, gL_sM, aI_sI, aI_sL, aI_sA, aI_sM, aL_sI, aL_sL, aL_sA, aL_sM]; try dsimp only
          intro p31
          refine ⟨fun h32 => ?_, fun h32 => ?_⟩
          · refine hB _ _ _ _ _ (fun m33 hm33 => ?_)
            dsimp only [ugo, uwp, ust, uct, rfd, BisHeld, BisHeld_47, Nat.beq, lv_args, rlk, rs1, rs2, rdl, rky, rcd, rno, rsw, Value.category, List.filter, List.take, List.drop, List.reverse, List.reverseAux, List.cons_append, List.nil_append, Option.toList, Int.toNat, Int.reduceToNat, if_pos, if_neg, reduceIte, ↓reduceIte, Nat.reduceAdd, Nat.reduceEqDiff, Nat.reduceBEq, beq_self_eq_true, Bool.not_true, Bool.not_false, Bool.and_true, Bool.and_false, Bool.true_and, Bool.false_and, gI_sI, gI_sL, gI_sA, gI_sM, gL_sI, gL_sL, gL_sA, gL_sM, aI_sI, aI_sL, aI_sA, aI_sM, aL_sI, aL_sL, aL_sA, aL_sM, oi_0]; try dsimp only
            refine hB _ _ _ _ _ (fun m34 hm34 => ?_)
            dsimp only [ugo, uwp, ust, uct, rfd, BisHeld, BisHeld_48, Nat.beq, lv_args, rlk, rs1, rs2, rdl, rky, rcd, rno, rsw, Value.category, List.filter, List.take, List.drop, List.reverse, List.reverseAux, List.cons_append, List.nil_append, Option.toList, Int.toNat, Int.reduceToNat, if_pos, if_neg, reduceIte, ↓reduceIte, Nat.reduceAdd, Nat.reduceEqDiff, Nat.reduceBEq, beq_self_eq_true, Bool.not_true, Bool.not_false, Bool.and_true, Bool.and_false, Bool.true_and, Bool.false_and, gI_sI, gI_sL, gI_sA, gI_sM, gL_sI, gL_sL, gL_sA, gL_sM, aI_sI, aI_sL, aI_sA, aI_sM, aL_sI, aL_sL, aL_sA, aL_sM]; try dsimp only
            unfold Qv_isHeld
            try dsimp only
            refine ⟨rfl, 0, rfl, fun e he => ?_⟩
            have e1 := he.1
            have e2 := @ft_hv σ _ e type.toInt he
            refine b00 (fun q => ?_)
            obtain ⟨q1, q2, q3⟩ := q
            have q4 := (e2 q1).mpr q3
            first | omega | exact q4.1 (by assumption) | exact (by assumption : ¬ hvT _ _) q4.2
          · refine hB _ _ _ _ _ (fun m35 hm35 => ?_)
            dsimp only [ugo, uwp, ust, uct, rfd, BisHeld, BisHeld_29, Nat.beq, lv_args, rlk, rs1, rs2, rdl, rky, rcd, rno, rsw, Value.category, List.filter, List.take, List.drop, List.reverse, List.reverseAux, List.cons_append, List.nil_append, Option.toList, Int.toNat, Int.reduceToNat, if_pos, if_neg, reduceIte, ↓reduceIte, Nat.reduceAdd, Nat.reduceEqDiff, Nat.reduceBEq, beq_self_eq_true, Bool.not_true, Bool.not_false, Bool.and_true, Bool.and_false, Bool.true_and, Bool.false_and, gI_sI, gI_sL, gI_sA, gI_sM, gL_sI, gL_sL, gL_sA, gL_sM, aI_sI, aI_sL, aI_sA, aI_sM, aL_sI, aL_sL, aL_sA, aL_sM]; try dsimp only
            intro p36
            refine ⟨trivial, fun w37 τ37 hq37 => ?_⟩
            obtain ⟨rfl, b37, rfl, hb37⟩ := hq37 trivial
            try rw [show (type).toInt = (type).toInt from (rfl : (type).toInt = (type).toInt)] at hb37
            have hb37 : ¬ b37 = 0 ↔ hvT ((type).toInt) ((aL σ 72) (s).toNatClampNeg) := hb37
            dsimp only [Option.toList, List.cons_append, List.nil_append, Nat.beq, gI_sI, gI_sL, gI_sA, gI_sM, gL_sI, gL_sL, gL_sA, gL_sM, aI_sI, aI_sL, aI_sA, aI_sM, aL_sI, aL_sL, aL_sA, aL_sM]
            refine ⟨fun h38 => ?_, fun h38 => ?_⟩
            · have c38 : ¬ (hvT ((type).toInt) ((aL σ 72) (s).toNatClampNeg)) := fun q => (hb37).mpr q h38
              refine hB _ _ _ _ _ (fun m39 hm39 => ?_)
              dsimp only [ugo, uwp, ust, uct, rfd, BisHeld, BisHeld_47, Nat.beq, lv_args, rlk, rs1, rs2, rdl, rky, rcd, rno, rsw, Value.category, List.filter, List.take, List.drop, List.reverse, List.reverseAux, List.cons_append, List.nil_append, Option.toList, Int.toNat, Int.reduceToNat, if_pos, if_neg, reduceIte, ↓reduceIte, Nat.reduceAdd, Nat.reduceEqDiff, Nat.reduceBEq, beq_self_eq_true, Bool.not_true, Bool.not_false, Bool.and_true, Bool.and_false, Bool.true_and, Bool.false_and, gI_sI, gI_sL, gI_sA, gI_sM, gL_sI, gL_sL, gL_sA, gL_sM, aI_sI, aI_sL, aI_sA, aI_sM, aL_sI, aL_sL, aL_sA, aL_sM, oi_0]; try dsimp only
              refine hB _ _ _ _ _ (fun m40 hm40 => ?_)
              dsimp only [ugo, uwp, ust, uct, rfd, BisHeld, BisHeld_48, Nat.beq, lv_args, rlk, rs1, rs2, rdl, rky, rcd, rno, rsw, Value.category, List.filter, List.take, List.drop, List.reverse, List.reverseAux, List.cons_append, List.nil_append, Option.toList, Int.toNat, Int.reduceToNat, if_pos, if_neg, reduceIte, ↓reduceIte, Nat.reduceAdd, Nat.reduceEqDiff, Nat.reduceBEq, beq_self_eq_true, Bool.not_true, Bool.not_false, Bool.and_true, Bool.and_false, Bool.true_and, Bool.false_and, gI_sI, gI_sL, gI_sA, gI_sM, gL_sI, gL_sL, gL_sA, gL_sM, aI_sI, aI_sL, aI_sA, aI_sM, aL_sI, aL_sL, aL_sA, aL_sM]; try dsimp only
              unfold Qv_isHeld
              try dsimp only
              refine ⟨rfl, 0, rfl, fun e he => ?_⟩
              have e1 := he.1
              have e2 := @ft_hv σ _ e type.toInt he
              refine b00 (fun q => ?_)
              obtain ⟨q1, q2, q3⟩ := q
              have q4 := (e2 q1).mpr q3
              first | omega | exact q4.1 (by assumption) | exact (by assumption : ¬ hvT _ _) q4.2
            · have c38 : hvT ((type).toInt) ((aL σ 72) (s).toNatClampNeg) := (hb37).mp h38
              refine hB _ _ _ _ _ (fun m41 hm41 => ?_)
              dsimp only [ugo, uwp, ust, uct, rfd, BisHeld, BisHeld_43, Nat.beq, lv_args, rlk, rs1, rs2, rdl, rky, rcd, rno, rsw, Value.category, List.filter, List.take, List.drop, List.reverse, List.reverseAux, List.cons_append, List.nil_append, Option.toList, Int.toNat, Int.reduceToNat, if_pos, if_neg, reduceIte, ↓reduceIte, Nat.reduceAdd, Nat.reduceEqDiff, Nat.reduceBEq, beq_self_eq_true, Bool.not_true, Bool.not_false, Bool.and_true, Bool.and_false, Bool.true_and, Bool.false_and, gI_sI, gI_sL, gI_sA, gI_sM, gL_sI, gL_sL, gL_sA, gL_sM, aI_sI, aI_sL, aI_sA, aI_sM, aL_sI, aL_sL, aL_sA, aL_sM, oi_1]; try dsimp only
              refine hB _ _ _ _ _ (fun m42 hm42 => ?_)
              dsimp only [ugo, uwp, ust, uct, rfd, BisHeld, BisHeld_48, Nat.beq, lv_args, rlk, rs1, rs2, rdl, rky, rcd, rno, rsw, Value.category, List.filter, List.take, List.drop, List.reverse, List.reverseAux, List.cons_append, List.nil_append, Option.toList, Int.toNat, Int.reduceToNat, if_pos, if_neg, reduceIte, ↓reduceIte, Nat.reduceAdd, Nat.reduceEqDiff, Nat.reduceBEq, beq_self_eq_true, Bool.not_true, Bool.not_false, Bool.and_true, Bool.and_false, Bool.true_and, Bool.false_and, gI_sI, gI_sL, gI_sA, gI_sM, gL_sI, gL_sL, gL_sA, gL_sM, aI_sI, aI_sL, aI_sA, aI_sM, aL_sI, aL_sL, aL_sA, aL_sM]; try dsimp only
              unfold Qv_isHeld
              try dsimp only
              refine ⟨rfl, 1, rfl, fun e he => ?_⟩
              have e1 := he.1
              have e2 := @ft_hv σ _ e type.toInt he
              exact b01 ⟨by omega, by omega, (e2 (by omega)).mp ⟨by assumption, by assumption⟩⟩
  next => exact hP.elim
theorem w_isHeld : UMet 99 (fun _ _ => True) Qw_isHeld := fun A1 σ _ w τ h hP => v_isHeld A1 σ hP w τ h
def Pv_need : UP1 := fun A1 σ => match A1 with
  | [.int s, .int want] => True
  | _ => False
def Qv_need : UQ1 := fun A1 σ w τ => match A1 with
  | [.int s, .int want] => (¬ gI σ 66 = 0 → ¬ gI τ 66 = 0) ∧ ∃ b : Int32, w = some (.int b) ∧ ∀ e, TeR σ s.toNatClampNeg e → (b = 1 ∧ σ = τ ∧ ndT want e) ∨ (b = 0 ∧ ¬ gI τ 66 = 0 ∧ ¬ ndT want e)
  | _ => False
def Qw_need : UQ1 := fun A1 σ w τ => Pv_need A1 σ → Qv_need A1 σ w τ
set_option maxRecDepth 100000 in
set_option maxHeartbeats 4000000 in
theorem v_need : UMet 80 (Pv_need) (Qv_need) := by
  refine UMet.by Bneed [(70, (fun _ _ => True), Qw_err), (79, (fun _ _ => True), Qw_isBad), (72, (fun _ _ => True), Qw_isNumber)] rfl (ucc w_err (ucc w_isBad (ucc w_isNumber uc0))) ?_
  intro A1 σ hP K hB hW
  unfold Pv_need at hP
  split at hP
  next s want =>
    intro n0
    refine hB _ _ _ _ _ (fun m1 hm1 => ?_)
    dsimp only [ugo, uwp, ust, uct, rfd, Bneed, Bneed_0, Nat.beq, lv_args, rlk, rs1, rs2, rdl, rky, rcd, rno, rsw, Value.category, List.filter, List.take, List.drop, List.reverse, List.reverseAux, List.cons_append, List.nil_append, Option.toList, Int.toNat, Int.reduceToNat, if_pos, if_neg, reduceIte, ↓reduceIte, Nat.reduceAdd, Nat.reduceEqDiff, Nat.reduceBEq, beq_self_eq_true, Bool.not_true, Bool.not_false, Bool.and_true, Bool.and_false, Bool.true_and, Bool.false_and, gI_sI, gI_sL, gI_sA, gI_sM, gL_sI, gL_sL, gL_sA, gL_sM, aI_sI, aI_sL, aI_sA, aI_sM, aL_sI, aL_sL, aL_sA, aL_sM]; try dsimp only
    refine ⟨trivial, fun w2 τ2 hq2 => ?_⟩
    obtain ⟨rfl, b2, rfl, hb2⟩ := hq2 trivial
    dsimp only [Option.toList, List.cons_append, List.nil_append, Nat.beq, gI_sI, gI_sL, gI_sA, gI_sM, gL_sI, gL_sL, gL_sA, gL_sM, aI_sI, aI_sL, aI_sA, aI_sM, aL_sI, aL_sL, aL_sA, aL_sM]
    refine ⟨fun h3 => ?_, fun h3 => ?_⟩
    · refine hB _ _ _ _ _ (fun m4 hm4 => ?_)
      dsimp only [ugo, uwp, ust, uct, rfd, Bneed, Bneed_10, Nat.beq, lv_args, rlk, rs1, rs2, rdl, rky, rcd, rno, rsw, Value.category, List.filter, List.take, List.drop, List.reverse, List.reverseAux, List.cons_append, List.nil_append, Option.toList, Int.toNat, Int.reduceToNat, if_pos, if_neg, reduceIte, ↓reduceIte, Nat.reduceAdd, Nat.reduceEqDiff, Nat.reduceBEq, beq_self_eq_true, Bool.not_true, Bool.not_false, Bool.and_true, Bool.and_false, Bool.true_and, Bool.false_and, gI_sI, gI_sL, gI_sA, gI_sM, gL_sI, gL_sL, gL_sA, gL_sM, aI_sI, aI_sL, aI_sA, aI_sM, aL_sI, aL_sL, aL_sA, aL_sM]; try dsimp only
      refine ⟨fun h5 => ?_, fun h5 => ?_⟩
      · refine hB _ _ _ _ _ (fun m6 hm6 => ?_)
        dsimp only [ugo, uwp, ust, uct, rfd, Bneed, Bneed_26, Nat.beq, lv_args, rlk, rs1, rs2, rdl, rky, rcd, rno, rsw, Value.category, List.filter, List.take, List.drop, List.reverse, List.reverseAux, List.cons_append, List.nil_append, Option.toList, Int.toNat, Int.reduceToNat, if_pos, if_neg, reduceIte, ↓reduceIte, Nat.reduceAdd, Nat.reduceEqDiff, Nat.reduceBEq, beq_self_eq_true, Bool.not_true, Bool.not_false, Bool.and_true, Bool.and_false, Bool.true_and, Bool.false_and, gI_sI, gI_sL, gI_sA, gI_sM, gL_sI, gL_sL, gL_sA, gL_sM, aI_sI, aI_sL, aI_sA, aI_sM, aL_sI, aL_sL, aL_sA, aL_sM]; try dsimp only
        intro p7
        refine ⟨trivial, fun w8 τ8 hq8 => ?_⟩
        obtain ⟨rfl, b8, rfl, hb8⟩ := hq8 trivial
        try rw [show (((aI σ 70) (s).toNatClampNeg)).toInt = (aI σ 70 (s).toNatClampNeg).toInt from (rfl : (aI σ 70 (s).toNatClampNeg).toInt = (aI σ 70 (s).toNatClampNeg).toInt)] at hb8
        have hb8 : ¬ b8 = 0 ↔ nuT ((aI σ 70 (s).toNatClampNeg).toInt) := hb8
        dsimp only [Option.toList, List.cons_append, List.nil_append, Nat.beq, gI_sI, gI_sL, gI_sA, gI_sM, gL_sI, gL_sL, gL_sA, gL_sM, aI_sI, aI_sL, aI_sA, aI_sM, aL_sI, aL_sL, aL_sA, aL_sM]
        refine ⟨fun h9 => ?_, fun h9 => ?_⟩
        · have c9 : ¬ (nuT ((aI σ 70 (s).toNatClampNeg).toInt)) := fun q => (hb8).mpr q h9
          refine hB _ _ _ _ _ (fun m10 hm10 => ?_)
          dsimp only [ugo, uwp, ust, uct, rfd, Bneed, Bneed_41, Nat.beq, lv_args, rlk, rs1, rs2, rdl, rky, rcd, rno, rsw, Value.category, List.filter, List.take, List.drop, List.reverse, List.reverseAux, List.cons_append, List.nil_append, Option.toList, Int.toNat, Int.reduceToNat, if_pos, if_neg, reduceIte, ↓reduceIte, Nat.reduceAdd, Nat.reduceEqDiff, Nat.reduceBEq, beq_self_eq_true, Bool.not_true, Bool.not_false, Bool.and_true, Bool.and_false, Bool.true_and, Bool.false_and, gI_sI, gI_sL, gI_sA, gI_sM, gL_sI, gL_sL, gL_sA, gL_sM, aI_sI, aI_sL, aI_sA, aI_sM, aL_sI, aL_sL, aL_sA, aL_sM, oi_0, oi_5]; try dsimp only
          intro p11
          refine ⟨trivial, fun w12 τ12 hq12 => ?_⟩
          obtain ⟨rfl, hz12⟩ := hq12 (show ¬ (5 : Int32) = 0 by decide)
          dsimp only [Option.toList, List.cons_append, List.nil_append, Nat.beq, gI_sI, gI_sL, gI_sA, gI_sM, gL_sI, gL_sL, gL_sA, gL_sM, aI_sI, aI_sL, aI_sA, aI_sM, aL_sI, aL_sL, aL_sA, aL_sM]
          unfold Qv_need
          try dsimp only
          refine ⟨fun q => hz12, 0, rfl, fun e he => Or.inr ⟨rfl, hz12, fun q => ?_⟩⟩
          have e1 := he.1
          have q2 := (nd_f h5).mp q
          omega
        · have c9 : nuT ((aI σ 70 (s).toNatClampNeg).toInt) := (hb8).mp h9
          refine hB _ _ _ _ _ (fun m13 hm13 => ?_)
          dsimp only [ugo, uwp, ust, uct, rfd, Bneed, Bneed_39, Nat.beq, lv_args, rlk, rs1, rs2, rdl, rky, rcd, rno, rsw, Value.category, List.filter, List.take, List.drop, List.reverse, List.reverseAux, List.cons_append, List.nil_append, Option.toList, Int.toNat, Int.reduceToNat, if_pos, if_neg, reduceIte, ↓reduceIte, Nat.reduceAdd, Nat.reduceEqDiff, Nat.reduceBEq, beq_self_eq_true, Bool.not_true, Bool.not_false, Bool.and_true, Bool.and_false, Bool.true_and, Bool.false_and, gI_sI, gI_sL, gI_sA, gI_sM, gL_sI, gL_sL, gL_sA, gL_sM, aI_sI, aI_sL, aI_sA, aI_sM, aL_sI, aL_sL, aL_sA, aL_sM, oi_1]; try dsimp only
          unfold Qv_need
          try dsimp only
          refine ⟨fun q => q, 1, rfl, fun e he => Or.inl ⟨rfl, rfl, ?_⟩⟩
          have e1 := he.1
          exact (nd_f h5).mpr (by rw [← e1]; assumption)
      · refine hB _ _ _ _ _ (fun m14 hm14 => ?_)
        dsimp only [ugo, uwp, ust, uct, rfd, Bneed, Bneed_14, Nat.beq, lv_args, rlk, rs1, rs2, rdl, rky, rcd, rno, rsw, Value.category, List.filter, List.take, List.drop, List.reverse, List.reverseAux, List.cons_append, List.nil_append, Option.toList, Int.toNat, Int.reduceToNat, if_pos, if_neg, reduceIte, ↓reduceIte, Nat.reduceAdd, Nat.reduceEqDiff, Nat.reduceBEq, beq_self_eq_true, Bool.not_true, Bool.not_false, Bool.and_true, Bool.and_false, Bool.true_and, Bool.false_and, gI_sI, gI_sL, gI_sA, gI_sM, gL_sI, gL_sL, gL_sA, gL_sM, aI_sI, aI_sL, aI_sA, aI_sM, aL_sI, aL_sL, aL_sA, aL_sM]; try dsimp only
        intro p15
        refine ⟨fun h16 => ?_, fun h16 => ?_⟩
        · have c16 : ¬ (aI σ 70 (s).toNatClampNeg).toInt = 0 := fun q => h16 ((cI (rfl : (aI σ 70 (s).toNatClampNeg).toInt = (aI σ 70 (s).toNatClampNeg).toInt) (rfl : (0 : Int32).toInt = 0)).1.mpr q)
          refine hB _ _ _ _ _ (fun m17 hm17 => ?_)
          dsimp only [ugo, uwp, ust, uct, rfd, Bneed, Bneed_41, Nat.beq, lv_args, rlk, rs1, rs2, rdl, rky, rcd, rno, rsw, Value.category, List.filter, List.take, List.drop, List.reverse, List.reverseAux, List.cons_append, List.nil_append, Option.toList, Int.toNat, Int.reduceToNat, if_pos, if_neg, reduceIte, ↓reduceIte, Nat.reduceAdd, Nat.reduceEqDiff, Nat.reduceBEq, beq_self_eq_true, Bool.not_true, Bool.not_false, Bool.and_true, Bool.and_false, Bool.true_and, Bool.false_and, gI_sI, gI_sL, gI_sA, gI_sM, gL_sI, gL_sL, gL_sA, gL_sM, aI_sI, aI_sL, aI_sA, aI_sM, aL_sI, aL_sL, aL_sA, aL_sM, oi_0, oi_5]; try dsimp only
          intro p18
          refine ⟨trivial, fun w19 τ19 hq19 => ?_⟩
          obtain ⟨rfl, hz19⟩ := hq19 (show ¬ (5 : Int32) = 0 by decide)
          dsimp only [Option.toList, List.cons_append, List.nil_append, Nat.beq, gI_sI, gI_sL, gI_sA, gI_sM, gL_sI, gL_sL, gL_sA, gL_sM, aI_sI, aI_sL, aI_sA, aI_sM, aL_sI, aL_sL, aL_sA, aL_sM]
          unfold Qv_need
          try dsimp only
          refine ⟨fun q => hz19, 0, rfl, fun e he => Or.inr ⟨rfl, hz19, fun q => ?_⟩⟩
          have e1 := he.1
          have q2 := (nd_t h5).mp q
          omega
        · have c16 : (aI σ 70 (s).toNatClampNeg).toInt = 0 := (cI (rfl : (aI σ 70 (s).toNatClampNeg).toInt = (aI σ 70 (s).toNatClampNeg).toInt) (rfl : (0 : Int32).toInt = 0)).1.mp h16
          refine hB _ _ _ _ _ (fun m20 hm20 => ?_)
          dsimp only [ugo, uwp, ust, uct, rfd, Bneed, Bneed_23, Nat.beq, lv_args, rlk, rs1, rs2, rdl, rky, rcd, rno, rsw, Value.category, List.filter, List.take, List.drop, List.reverse, List.reverseAux, List.cons_append, List.nil_append, Option.toList, Int.toNat, Int.reduceToNat, if_pos, if_neg, reduceIte, ↓reduceIte, Nat.reduceAdd, Nat.reduceEqDiff, Nat.reduceBEq, beq_self_eq_true, Bool.not_true, Bool.not_false, Bool.and_true, Bool.and_false, Bool.true_and, Bool.false_and, gI_sI, gI_sL, gI_sA, gI_sM, gL_sI, gL_sL, gL_sA, gL_sM, aI_sI, aI_sL, aI_sA, aI_sM, aL_sI, aL_sL, aL_sA, aL_sM]; try dsimp only
          refine hB _ _ _ _ _ (fun m21 hm21 => ?_)
          dsimp only [ugo, uwp, ust, uct, rfd, Bneed, Bneed_39, Nat.beq, lv_args, rlk, rs1, rs2, rdl, rky, rcd, rno, rsw, Value.category, List.filter, List.take, List.drop, List.reverse, List.reverseAux, List.cons_append, List.nil_append, Option.toList, Int.toNat, Int.reduceToNat, if_pos, if_neg, reduceIte, ↓reduceIte, Nat.reduceAdd, Nat.reduceEqDiff, Nat.reduceBEq, beq_self_eq_true, Bool.not_true, Bool.not_false, Bool.and_true, Bool.and_false, Bool.true_and, Bool.false_and, gI_sI, gI_sL, gI_sA, gI_sM, gL_sI, gL_sL, gL_sA, gL_sM, aI_sI, aI_sL, aI_sA, aI_sM, aL_sI, aL_sL, aL_sA, aL_sM, oi_1]; try dsimp only
          unfold Qv_need
          try dsimp only
          refine ⟨fun q => q, 1, rfl, fun e he => Or.inl ⟨rfl, rfl, ?_⟩⟩
          have e1 := he.1
          exact (nd_t h5).mpr (by omega)
    · refine hB _ _ _ _ _ (fun m22 hm22 => ?_)
      dsimp only [ugo, uwp, ust, uct, rfd, Bneed, Bneed_8, Nat.beq, lv_args, rlk, rs1, rs2, rdl, rky, rcd, rno, rsw, Value.category, List.filter, List.take, List.drop, List.reverse, List.reverseAux, List.cons_append, List.nil_append, Option.toList, Int.toNat, Int.reduceToNat, if_pos, if_neg, reduceIte, ↓reduceIte, Nat.reduceAdd, Nat.reduceEqDiff, Nat.reduceBEq, beq_self_eq_true, Bool.not_true, Bool.not_false, Bool.and_true, Bool.and_false, Bool.true_and, Bool.false_and, gI_sI, gI_sL, gI_sA, gI_sM, gL_sI, gL_sL, gL_sA, gL_sM, aI_sI, aI_sL, aI_sA, aI_sM, aL_sI, aL_sL, aL_sA, aL_sM, oi_0]; try dsimp only
      unfold Qv_need
      try dsimp only
      exact ⟨fun q => q, 0, rfl, fun e he => absurd (hb2.mp (by assumption)) (TeR.nb he)⟩
  next => exact hP.elim
theorem w_need : UMet 80 (fun _ _ => True) Qw_need := fun A1 σ _ w τ h hP => v_need A1 σ hP w τ h
def Pv_pair : UP1 := fun A1 σ => match A1 with
  | [.int s, .int either] => True
  | _ => False
def Qv_pair : UQ1 := fun A1 σ w τ => match A1 with
  | [.int s, .int either] => (¬ gI σ 66 = 0 → ¬ gI τ 66 = 0) ∧ ∃ b : Int32, w = some (.int b) ∧ ∀ e, TeR σ s.toNatClampNeg e → (b = 1 ∧ σ = τ ∧ prT either e) ∨ (b = 0 ∧ ¬ gI τ 66 = 0 ∧ ¬ prT either e)
  | _ => False
def Qw_pair : UQ1 := fun A1 σ w τ => Pv_pair A1 σ → Qv_pair A1 σ w τ
set_option maxRecDepth 100000 in
set_option maxHeartbeats 4000000 in
theorem v_pair : UMet 96 (Pv_pair) (Qv_pair) := by
  refine UMet.by Bpair [(80, (fun _ _ => True), Qw_need)] rfl (ucc w_need uc0) ?_
  intro A1 σ hP K hB hW
  unfold Pv_pair at hP
  split at hP
  next s either =>
    intro n0
    refine hB _ _ _ _ _ (fun m1 hm1 => ?_)
    dsimp only [ugo, uwp, ust, uct, rfd, Bpair, Bpair_0, Nat.beq, lv_args, rlk, rs1, rs2, rdl, rky, rcd, rno, rsw, Value.category, List.filter, List.take, List.drop, List.reverse, List.reverseAux, List.cons_append, List.nil_append, Option.toList, Int.toNat, Int.reduceToNat, if_pos, if_neg, reduceIte, ↓reduceIte, Nat.reduceAdd, Nat.reduceEqDiff, Nat.reduceBEq, beq_self_eq_true, Bool.not_true, Bool.not_false, Bool.and_true, Bool.and_false, Bool.true_and, Bool.false_and, gI_sI, gI_sL, gI_sA, gI_sM, gL_sI, gL_sL, gL_sA, gL_sM, aI_sI, aI_sL, aI_sA, aI_sM, aL_sI, aL_sL, aL_sA, aL_sM]; try dsimp only
    refine ⟨fun h2 => ?_, fun h2 => ?_⟩
    · refine hB _ _ _ _ _ (fun m3 hm3 => ?_)
      dsimp only [ugo, uwp, ust, uct, rfd, Bpair, Bpair_15, Nat.beq, lv_args, rlk, rs1, rs2, rdl, rky, rcd, rno, rsw, Value.category, List.filter, List.take, List.drop, List.reverse, List.reverseAux, List.cons_append, List.nil_append, Option.toList, Int.toNat, Int.reduceToNat, if_pos, if_neg, reduceIte, ↓reduceIte, Nat.reduceAdd, Nat.reduceEqDiff, Nat.reduceBEq, beq_self_eq_true, Bool.not_true, Bool.not_false, Bool.and_true, Bool.and_false, Bool.true_and, Bool.false_and, gI_sI, gI_sL, gI_sA, gI_sM, gL_sI, gL_sL, gL_sA, gL_sM, aI_sI, aI_sL, aI_sA, aI_sM, aL_sI, aL_sL, aL_sA, aL_sM, oi_1]; try dsimp only
      refine ⟨trivial, fun w4 τ4 hq4 => ?_⟩
      obtain ⟨hA4, b4, rfl, hb4⟩ := hq4 trivial
      dsimp only [Option.toList, List.cons_append, List.nil_append, Nat.beq, gI_sI, gI_sL, gI_sA, gI_sM, gL_sI, gL_sL, gL_sA, gL_sM, aI_sI, aI_sL, aI_sA, aI_sM, aL_sI, aL_sL, aL_sA, aL_sM]
      unfold Qv_pair
      try dsimp only
      refine ⟨hA4, b4, rfl, fun e he => (hb4 e he).elim (fun hd => Or.inl ⟨hd.1, hd.2.1, Or.inr ((nd_f (by decide)).mp hd.2.2)⟩) (fun hd => Or.inr ⟨hd.1, hd.2.1, fun q => q.elim (fun z => ?_) (fun z => hd.2.2 ((nd_f (by decide)).mpr z))⟩)⟩
      exact absurd h2 z.1
    · refine hB _ _ _ _ _ (fun m5 hm5 => ?_)
      dsimp only [ugo, uwp, ust, uct, rfd, Bpair, Bpair_4, Nat.beq, lv_args, rlk, rs1, rs2, rdl, rky, rcd, rno, rsw, Value.category, List.filter, List.take, List.drop, List.reverse, List.reverseAux, List.cons_append, List.nil_append, Option.toList, Int.toNat, Int.reduceToNat, if_pos, if_neg, reduceIte, ↓reduceIte, Nat.reduceAdd, Nat.reduceEqDiff, Nat.reduceBEq, beq_self_eq_true, Bool.not_true, Bool.not_false, Bool.and_true, Bool.and_false, Bool.true_and, Bool.false_and, gI_sI, gI_sL, gI_sA, gI_sM, gL_sI, gL_sL, gL_sA, gL_sM, aI_sI, aI_sL, aI_sA, aI_sM, aL_sI, aL_sL, aL_sA, aL_sM]; try dsimp only
      intro p6
      refine ⟨fun h7 => ?_, fun h7 => ?_⟩
      · have c7 : ¬ (aI σ 70 (s).toNatClampNeg).toInt = 0 := fun q => h7 ((cI (rfl : (aI σ 70 (s).toNatClampNeg).toInt = (aI σ 70 (s).toNatClampNeg).toInt) (rfl : (0 : Int32).toInt = 0)).1.mpr q)
        refine hB _ _ _ _ _ (fun m8 hm8 => ?_)
        dsimp only [ugo, uwp, ust, uct, rfd, Bpair, Bpair_15, Nat.beq, lv_args, rlk, rs1, rs2, rdl, rky, rcd, rno, rsw, Value.category, List.filter, List.take, List.drop, List.reverse, List.reverseAux, List.cons_append, List.nil_append, Option.toList, Int.toNat, Int.reduceToNat, if_pos, if_neg, reduceIte, ↓reduceIte, Nat.reduceAdd, Nat.reduceEqDiff, Nat.reduceBEq, beq_self_eq_true, Bool.not_true, Bool.not_false, Bool.and_true, Bool.and_false, Bool.true_and, Bool.false_and, gI_sI, gI_sL, gI_sA, gI_sM, gL_sI, gL_sL, gL_sA, gL_sM, aI_sI, aI_sL, aI_sA, aI_sM, aL_sI, aL_sL, aL_sA, aL_sM, oi_1]; try dsimp only
        refine ⟨trivial, fun w9 τ9 hq9 => ?_⟩
        obtain ⟨hA9, b9, rfl, hb9⟩ := hq9 trivial
        dsimp only [Option.toList, List.cons_append, List.nil_append, Nat.beq, gI_sI, gI_sL, gI_sA, gI_sM, gL_sI, gL_sL, gL_sA, gL_sM, aI_sI, aI_sL, aI_sA, aI_sM, aL_sI, aL_sL, aL_sA, aL_sM]
        unfold Qv_pair
        try dsimp only
        refine ⟨hA9, b9, rfl, fun e he => (hb9 e he).elim (fun hd => Or.inl ⟨hd.1, hd.2.1, Or.inr ((nd_f (by decide)).mp hd.2.2)⟩) (fun hd => Or.inr ⟨hd.1, hd.2.1, fun q => q.elim (fun z => ?_) (fun z => hd.2.2 ((nd_f (by decide)).mpr z))⟩)⟩
        have e1 := he.1; have z2 := z.2; omega
      · have c7 : (aI σ 70 (s).toNatClampNeg).toInt = 0 := (cI (rfl : (aI σ 70 (s).toNatClampNeg).toInt = (aI σ 70 (s).toNatClampNeg).toInt) (rfl : (0 : Int32).toInt = 0)).1.mp h7
        refine hB _ _ _ _ _ (fun m10 hm10 => ?_)
        dsimp only [ugo, uwp, ust, uct, rfd, Bpair, Bpair_13, Nat.beq, lv_args, rlk, rs1, rs2, rdl, rky, rcd, rno, rsw, Value.category, List.filter, List.take, List.drop, List.reverse, List.reverseAux, List.cons_append, List.nil_append, Option.toList, Int.toNat, Int.reduceToNat, if_pos, if_neg, reduceIte, ↓reduceIte, Nat.reduceAdd, Nat.reduceEqDiff, Nat.reduceBEq, beq_self_eq_true, Bool.not_true, Bool.not_false, Bool.and_true, Bool.and_false, Bool.true_and, Bool.false_and, gI_sI, gI_sL, gI_sA, gI_sM, gL_sI, gL_sL, gL_sA, gL_sM, aI_sI, aI_sL, aI_sA, aI_sM, aL_sI, aL_sL, aL_sA, aL_sM, oi_1]; try dsimp only
        unfold Qv_pair
        try dsimp only
        refine ⟨fun q => q, 1, rfl, fun e he => Or.inl ⟨rfl, rfl, Or.inl ⟨by assumption, ?_⟩⟩⟩
        have e1 := he.1
        omega
  next => exact hP.elim
theorem w_pair : UMet 96 (fun _ _ => True) Qw_pair := fun A1 σ _ w τ h hP => v_pair A1 σ hP w τ h
def Pv_reckon : UP1 := fun A1 σ => match A1 with
  | [.int s, .int work, .long a, .long b] => True
  | _ => False
def Qv_reckon : UQ1 := fun A1 σ w τ => match A1 with
  | [.int s, .int work, .long a, .long b] => σ = τ ∧ ∃ r : Int64, w = some (.long r) ∧ ∀ sg : Int, (s.toInt, sg) ∈ sgT → 22 ≤ sg ∧ sg ≤ 38 → ((34 ≤ sg ∧ sg ≤ 38) → ¬ work.toInt = 0) → r = wkT sg work.toInt a b
  | _ => False
def Qw_reckon : UQ1 := fun A1 σ w τ => Pv_reckon A1 σ → Qv_reckon A1 σ w τ
set_option maxRecDepth 100000 in
set_option maxHeartbeats 4000000 in
theorem v_reckon : UMet 97 (Pv_reckon) (Qv_reckon) := by
  refine UMet.by Breckon [(76, (fun _ _ => True), Qw_cast)] rfl (ucc w_cast uc0) ?_
  intro A1 σ hP K hB hW
  unfold Pv_reckon at hP
  split at hP
  next s work a b =>
    intro n0
    refine hB _ _ _ _ _ (fun m1 hm1 => ?_)
    dsimp only [ugo, uwp, ust, uct, rfd, Breckon, Breckon_0, Nat.beq, lv_args, rlk, rs1, rs2, rdl, rky, rcd, rno, rsw, Value.category, List.filter, List.take, List.drop, List.reverse, List.reverseAux, List.cons_append, List.nil_append, Option.toList, Int.toNat, Int.reduceToNat, if_pos, if_neg, reduceIte, ↓reduceIte, Nat.reduceAdd, Nat.reduceEqDiff, Nat.reduceBEq, beq_self_eq_true, Bool.not_true, Bool.not_false, Bool.and_true, Bool.and_false, Bool.true_and, Bool.false_and, gI_sI, gI_sL, gI_sA, gI_sM, gL_sI, gL_sL, gL_sA, gL_sM, aI_sI, aI_sL, aI_sA, aI_sM, aL_sI, aL_sL, aL_sA, aL_sM]; try dsimp only
    refine ⟨fun h2 => ?_, fun h2 => ?_⟩
    · have c2 : (s).toInt = 37 := (rfl : (s).toInt = (s).toInt).symm.trans h2
      refine hB _ _ _ _ _ (fun m3 hm3 => ?_)
      dsimp only [ugo, uwp, ust, uct, rfd, Breckon, Breckon_180, Nat.beq, lv_args, rlk, rs1, rs2, rdl, rky, rcd, rno, rsw, Value.category, List.filter, List.take, List.drop, List.reverse, List.reverseAux, List.cons_append, List.nil_append, Option.toList, Int.toNat, Int.reduceToNat, if_pos, if_neg, reduceIte, ↓reduceIte, Nat.reduceAdd, Nat.reduceEqDiff, Nat.reduceBEq, beq_self_eq_true, Bool.not_true, Bool.not_false, Bool.and_true, Bool.and_false, Bool.true_and, Bool.false_and, gI_sI, gI_sL, gI_sA, gI_sM, gL_sI, gL_sL, gL_sA, gL_sM, aI_sI, aI_sL, aI_sA, aI_sM, aL_sI, aL_sL, aL_sA, aL_sM]; try dsimp only
      intro p4
      refine ⟨trivial, fun w5 τ5 hq5 => ?_⟩
      obtain ⟨rfl, rfl⟩ := hq5 trivial
      try rw [show (work).toInt = (work).toInt from (rfl : (work).toInt = (work).toInt)]
      dsimp only [Option.toList, List.cons_append, List.nil_append, Nat.beq, gI_sI, gI_sL, gI_sA, gI_sM, gL_sI, gL_sL, gL_sA, gL_sM, aI_sI, aI_sL, aI_sA, aI_sM, aL_sI, aL_sL, aL_sA, aL_sM]
      unfold Qv_reckon
      try dsimp only
      refine ⟨rfl, _, rfl, fun sg hm hr h0 => ?_⟩
      obtain rfl : sg = 38 := (sg_n hm (by decide : ((37 : Int), (38 : Int)) ∈ sgT)).mp (by omega)
      unfold wkT
      rw [if_neg (by decide), if_neg (by decide), if_neg (by decide), if_neg (by decide), if_pos rfl]
      rw [if_neg (by assumption)]
      exact ca_nr (h0 (by decide))
    have c2 : ¬ (s).toInt = 37 := fun q => h2 ((rfl : (s).toInt = (s).toInt).trans q)
    refine ⟨fun h6 => ?_, fun h6 => ?_⟩
    · have c6 : (s).toInt = 38 := (rfl : (s).toInt = (s).toInt).symm.trans h6
      refine hB _ _ _ _ _ (fun m7 hm7 => ?_)
      dsimp only [ugo, uwp, ust, uct, rfd, Breckon, Breckon_190, Nat.beq, lv_args, rlk, rs1, rs2, rdl, rky, rcd, rno, rsw, Value.category, List.filter, List.take, List.drop, List.reverse, List.reverseAux, List.cons_append, List.nil_append, Option.toList, Int.toNat, Int.reduceToNat, if_pos, if_neg, reduceIte, ↓reduceIte, Nat.reduceAdd, Nat.reduceEqDiff, Nat.reduceBEq, beq_self_eq_true, Bool.not_true, Bool.not_false, Bool.and_true, Bool.and_false, Bool.true_and, Bool.false_and, gI_sI, gI_sL, gI_sA, gI_sM, gL_sI, gL_sL, gL_sA, gL_sM, aI_sI, aI_sL, aI_sA, aI_sM, aL_sI, aL_sL, aL_sA, aL_sM]; try dsimp only
      unfold Qv_reckon
      try dsimp only
      refine ⟨rfl, _, rfl, fun sg hm hr h0 => ?_⟩
      obtain rfl : sg = 24 := (sg_n hm (by decide : ((38 : Int), (24 : Int)) ∈ sgT)).mp (by omega)
      unfold wkT
      rw [if_neg (by decide), if_neg (by decide), if_neg (by decide), if_neg (by decide), if_neg (by decide), if_pos rfl]
      all_goals rfl
    have c6 : ¬ (s).toInt = 38 := fun q => h6 ((rfl : (s).toInt = (s).toInt).trans q)
    refine ⟨fun h8 => ?_, fun h8 => ?_⟩
    · have c8 : (s).toInt = 42 := (rfl : (s).toInt = (s).toInt).symm.trans h8
      refine hB _ _ _ _ _ (fun m9 hm9 => ?_)
      dsimp only [ugo, uwp, ust, uct, rfd, Breckon, Breckon_160, Nat.beq, lv_args, rlk, rs1, rs2, rdl, rky, rcd, rno, rsw, Value.category, List.filter, List.take, List.drop, List.reverse, List.reverseAux, List.cons_append, List.nil_append, Option.toList, Int.toNat, Int.reduceToNat, if_pos, if_neg, reduceIte, ↓reduceIte, Nat.reduceAdd, Nat.reduceEqDiff, Nat.reduceBEq, beq_self_eq_true, Bool.not_true, Bool.not_false, Bool.and_true, Bool.and_false, Bool.true_and, Bool.false_and, gI_sI, gI_sL, gI_sA, gI_sM, gL_sI, gL_sL, gL_sA, gL_sM, aI_sI, aI_sL, aI_sA, aI_sM, aL_sI, aL_sL, aL_sA, aL_sM]; try dsimp only
      refine ⟨trivial, fun w10 τ10 hq10 => ?_⟩
      obtain ⟨rfl, rfl⟩ := hq10 trivial
      try rw [show (work).toInt = (work).toInt from (rfl : (work).toInt = (work).toInt)]
      dsimp only [Option.toList, List.cons_append, List.nil_append, Nat.beq, gI_sI, gI_sL, gI_sA, gI_sM, gL_sI, gL_sL, gL_sA, gL_sM, aI_sI, aI_sL, aI_sA, aI_sM, aL_sI, aL_sL, aL_sA, aL_sM]
      unfold Qv_reckon
      try dsimp only
      refine ⟨rfl, _, rfl, fun sg hm hr h0 => ?_⟩
      obtain rfl : sg = 36 := (sg_n hm (by decide : ((42 : Int), (36 : Int)) ∈ sgT)).mp (by omega)
      unfold wkT
      rw [if_neg (by decide), if_neg (by decide), if_pos rfl]
      exact ca_nr (h0 (by decide))
    have c8 : ¬ (s).toInt = 42 := fun q => h8 ((rfl : (s).toInt = (s).toInt).trans q)
    refine ⟨fun h11 => ?_, fun h11 => ?_⟩
    · have c11 : (s).toInt = 43 := (rfl : (s).toInt = (s).toInt).symm.trans h11
      refine hB _ _ _ _ _ (fun m12 hm12 => ?_)
      dsimp only [ugo, uwp, ust, uct, rfd, Breckon, Breckon_140, Nat.beq, lv_args, rlk, rs1, rs2, rdl, rky, rcd, rno, rsw, Value.category, List.filter, List.take, List.drop, List.reverse, List.reverseAux, List.cons_append, List.nil_append, Option.toList, Int.toNat, Int.reduceToNat, if_pos, if_neg, reduceIte, ↓reduceIte, Nat.reduceAdd, Nat.reduceEqDiff, Nat.reduceBEq, beq_self_eq_true, Bool.not_true, Bool.not_false, Bool.and_true, Bool.and_false, Bool.true_and, Bool.false_and, gI_sI, gI_sL, gI_sA, gI_sM, gL_sI, gL_sL, gL_sA, gL_sM, aI_sI, aI_sL, aI_sA, aI_sM, aL_sI, aL_sL, aL_sA, aL_sM]; try dsimp only
      refine ⟨trivial, fun w13 τ13 hq13 => ?_⟩
      obtain ⟨rfl, rfl⟩ := hq13 trivial
      try rw [show (work).toInt = (work).toInt from (rfl : (work).toInt = (work).toInt)]
      dsimp only [Option.toList, List.cons_append, List.nil_append, Nat.beq, gI_sI, gI_sL, gI_sA, gI_sM, gL_sI, gL_sL, gL_sA, gL_sM, aI_sI, aI_sL, aI_sA, aI_sM, aL_sI, aL_sL, aL_sA, aL_sM]
      unfold Qv_reckon
      try dsimp only
      refine ⟨rfl, _, rfl, fun sg hm hr h0 => ?_⟩
      obtain rfl : sg = 34 := (sg_n hm (by decide : ((43 : Int), (34 : Int)) ∈ sgT)).mp (by omega)
      unfold wkT
      rw [if_pos rfl]
      exact ca_nr (h0 (by decide))
    have c11 : ¬ (s).toInt = 43 := fun q => h11 ((rfl : (s).toInt = (s).toInt).trans q)
    refine ⟨fun h14 => ?_, fun h14 => ?_⟩
    · have c14 : (s).toInt = 45 := (rfl : (s).toInt = (s).toInt).symm.trans h14
      refine hB _ _ _ _ _ (fun m15 hm15 => ?_)
      dsimp only [ugo, uwp, ust, uct, rfd, Breckon, Breckon_150, Nat.beq, lv_args, rlk, rs1, rs2, rdl, rky, rcd, rno, rsw, Value.category, List.filter, List.take, List.drop, List.reverse, List.reverseAux, List.cons_append, List.nil_append, Option.toList, Int.toNat, Int.reduceToNat, if_pos, if_neg, reduceIte, ↓reduceIte, Nat.reduceAdd, Nat.reduceEqDiff, Nat.reduceBEq, beq_self_eq_true, Bool.not_true, Bool.not_false, Bool.and_true, Bool.and_false, Bool.true_and, Bool.false_and, gI_sI, gI_sL, gI_sA, gI_sM, gL_sI, gL_sL, gL_sA, gL_sM, aI_sI, aI_sL, aI_sA, aI_sM, aL_sI, aL_sL, aL_sA, aL_sM]; try dsimp only
      refine ⟨trivial, fun w16 τ16 hq16 => ?_⟩
      obtain ⟨rfl, rfl⟩ := hq16 trivial
      try rw [show (work).toInt = (work).toInt from (rfl : (work).toInt = (work).toInt)]
      dsimp only [Option.toList, List.cons_append, List.nil_append, Nat.beq, gI_sI, gI_sL, gI_sA, gI_sM, gL_sI, gL_sL, gL_sA, gL_sM, aI_sI, aI_sL, aI_sA, aI_sM, aL_sI, aL_sL, aL_sA, aL_sM]
      unfold Qv_reckon
      try dsimp only
      refine ⟨rfl, _, rfl, fun sg hm hr h0 => ?_⟩
      obtain rfl : sg = 35 := (sg_n hm (by decide : ((45 : Int), (35 : Int)) ∈ sgT)).mp (by omega)
      unfold wkT
      rw [if_neg (by decide), if_pos rfl]
      exact ca_nr (h0 (by decide))
    have c14 : ¬ (s).toInt = 45 := fun q => h14 ((rfl : (s).toInt = (s).toInt).trans q)
    refine ⟨fun h17 => ?_, fun h17 => ?_⟩
    · have c17 : (s).toInt = 47 := (rfl : (s).toInt = (s).toInt).symm.trans h17
      refine hB _ _ _ _ _ (fun m18 hm18 => ?_)
      dsimp only [ugo, uwp, ust, uct, rfd, Breckon, Breckon_170, Nat.beq, lv_args, rlk, rs1, rs2, rdl, rky, rcd, rno, rsw, Value.category, List.filter, List.take, List.drop, List.reverse, List.reverseAux, List.cons_append, List.nil_append, Option.toList, Int.toNat, Int.reduceToNat, if_pos, if_neg, reduceIte, ↓reduceIte, Nat.reduceAdd, Nat.reduceEqDiff, Nat.reduceBEq, beq_self_eq_true, Bool.not_true, Bool.not_false, Bool.and_true, Bool.and_false, Bool.true_and, Bool.false_and, gI_sI, gI_sL, gI_sA, gI_sM, gL_sI, gL_sL, gL_sA, gL_sM, aI_sI, aI_sL, aI_sA, aI_sM, aL_sI, aL_sL, aL_sA, aL_sM]; try dsimp only
      intro p19
      refine ⟨trivial, fun w20 τ20 hq20 => ?_⟩
      obtain ⟨rfl, rfl⟩ := hq20 trivial
      try rw [show (work).toInt = (work).toInt from (rfl : (work).toInt = (work).toInt)]
      dsimp only [Option.toList, List.cons_append, List.nil_append, Nat.beq, gI_sI, gI_sL, gI_sA, gI_sM, gL_sI, gL_sL, gL_sA, gL_sM, aI_sI, aI_sL, aI_sA, aI_sM, aL_sI, aL_sL, aL_sA, aL_sM]
      unfold Qv_reckon
      try dsimp only
      refine ⟨rfl, _, rfl, fun sg hm hr h0 => ?_⟩
      obtain rfl : sg = 37 := (sg_n hm (by decide : ((47 : Int), (37 : Int)) ∈ sgT)).mp (by omega)
      unfold wkT
      rw [if_neg (by decide), if_neg (by decide), if_neg (by decide), if_pos rfl]
      rw [if_neg (by assumption)]
      exact ca_nr (h0 (by decide))
    have c17 : ¬ (s).toInt = 47 := fun q => h17 ((rfl : (s).toInt = (s).toInt).trans q)
    refine ⟨fun h21 => ?_, fun h21 => ?_⟩
    · have c21 : (s).toInt = 60 := (rfl : (s).toInt = (s).toInt).symm.trans h21
      refine hB _ _ _ _ _ (fun m22 hm22 => ?_)
      dsimp only [ugo, uwp, ust, uct, rfd, Breckon, Breckon_318, Nat.beq, lv_args, rlk, rs1, rs2, rdl, rky, rcd, rno, rsw, Value.category, List.filter, List.take, List.drop, List.reverse, List.reverseAux, List.cons_append, List.nil_append, Option.toList, Int.toNat, Int.reduceToNat, if_pos, if_neg, reduceIte, ↓reduceIte, Nat.reduceAdd, Nat.reduceEqDiff, Nat.reduceBEq, beq_self_eq_true, Bool.not_true, Bool.not_false, Bool.and_true, Bool.and_false, Bool.true_and, Bool.false_and, gI_sI, gI_sL, gI_sA, gI_sM, gL_sI, gL_sL, gL_sA, gL_sM, aI_sI, aI_sL, aI_sA, aI_sM, aL_sI, aL_sL, aL_sA, aL_sM]; try dsimp only
      refine ⟨fun h23 => ?_, fun h23 => ?_⟩
      · have c23 : (b).toInt ≤ (a).toInt := (cL (a := b) (b := a)).2.2.2.2.mp h23
        refine hB _ _ _ _ _ (fun m24 hm24 => ?_)
        dsimp only [ugo, uwp, ust, uct, rfd, Breckon, Breckon_329, Nat.beq, lv_args, rlk, rs1, rs2, rdl, rky, rcd, rno, rsw, Value.category, List.filter, List.take, List.drop, List.reverse, List.reverseAux, List.cons_append, List.nil_append, Option.toList, Int.toNat, Int.reduceToNat, if_pos, if_neg, reduceIte, ↓reduceIte, Nat.reduceAdd, Nat.reduceEqDiff, Nat.reduceBEq, beq_self_eq_true, Bool.not_true, Bool.not_false, Bool.and_true, Bool.and_false, Bool.true_and, Bool.false_and, gI_sI, gI_sL, gI_sA, gI_sM, gL_sI, gL_sL, gL_sA, gL_sM, aI_sI, aI_sL, aI_sA, aI_sM, aL_sI, aL_sL, aL_sA, aL_sM]; try dsimp only
        refine hB _ _ _ _ _ (fun m25 hm25 => ?_)
        dsimp only [ugo, uwp, ust, uct, rfd, Breckon, Breckon_330, Nat.beq, lv_args, rlk, rs1, rs2, rdl, rky, rcd, rno, rsw, Value.category, List.filter, List.take, List.drop, List.reverse, List.reverseAux, List.cons_append, List.nil_append, Option.toList, Int.toNat, Int.reduceToNat, if_pos, if_neg, reduceIte, ↓reduceIte, Nat.reduceAdd, Nat.reduceEqDiff, Nat.reduceBEq, beq_self_eq_true, Bool.not_true, Bool.not_false, Bool.and_true, Bool.and_false, Bool.true_and, Bool.false_and, gI_sI, gI_sL, gI_sA, gI_sM, gL_sI, gL_sL, gL_sA, gL_sM, aI_sI, aI_sL, aI_sA, aI_sM, aL_sI, aL_sL, aL_sA, aL_sM]; try dsimp only
        unfold Qv_reckon
        try dsimp only
        refine ⟨rfl, _, rfl, fun sg hm hr h0 => ?_⟩
        obtain rfl : sg = 27 := (sg_n hm (by decide : ((60 : Int), (27 : Int)) ∈ sgT)).mp (by omega)
        unfold wkT
        rw [if_neg (by decide), if_neg (by decide), if_neg (by decide), if_neg (by decide), if_neg (by decide), if_neg (by decide), if_neg (by decide), if_neg (by decide), if_neg (by decide)]
        exact (if_neg (show ¬ cmT 27 a b from (show ¬ (a.toInt < b.toInt) from by first | assumption | omega | exact fun q => q (by assumption)))).symm
      · have c23 : (a).toInt < (b).toInt := (cL (a := b) (b := a)).2.1.mp (by first | exact h23 | exact Int32.not_lt.mp h23 | exact Int32.not_le.mp h23)
        refine hB _ _ _ _ _ (fun m26 hm26 => ?_)
        dsimp only [ugo, uwp, ust, uct, rfd, Breckon, Breckon_325, Nat.beq, lv_args, rlk, rs1, rs2, rdl, rky, rcd, rno, rsw, Value.category, List.filter, List.take, List.drop, List.reverse, List.reverseAux, List.cons_append, List.nil_append, Option.toList, Int.toNat, Int.reduceToNat, if_pos, if_neg, reduceIte, ↓reduceIte, Nat.reduceAdd, Nat.reduceEqDiff, Nat.reduceBEq, beq_self_eq_true, Bool.not_true, Bool.not_false, Bool.and_true, Bool.and_false, Bool.true_and, Bool.false_and, gI_sI, gI_sL, gI_sA, gI_sM, gL_sI, gL_sL, gL_sA, gL_sM, aI_sI, aI_sL, aI_sA, aI_sM, aL_sI, aL_sL, aL_sA, aL_sM]; try dsimp only
        refine hB _ _ _ _ _ (fun m27 hm27 => ?_)
        dsimp only [ugo, uwp, ust, uct, rfd, Breckon, Breckon_330, Nat.beq, lv_args, rlk, rs1, rs2, rdl, rky, rcd, rno, rsw, Value.category, List.filter, List.take, List.drop, List.reverse, List.reverseAux, List.cons_append, List.nil_append, Option.toList, Int.toNat, Int.reduceToNat, if_pos, if_neg, reduceIte, ↓reduceIte, Nat.reduceAdd, Nat.reduceEqDiff, Nat.reduceBEq, beq_self_eq_true, Bool.not_true, Bool.not_false, Bool.and_true, Bool.and_false, Bool.true_and, Bool.false_and, gI_sI, gI_sL, gI_sA, gI_sM, gL_sI, gL_sL, gL_sA, gL_sM, aI_sI, aI_sL, aI_sA, aI_sM, aL_sI, aL_sL, aL_sA, aL_sM]; try dsimp only
        unfold Qv_reckon
        try dsimp only
        refine ⟨rfl, _, rfl, fun sg hm hr h0 => ?_⟩
        obtain rfl : sg = 27 := (sg_n hm (by decide : ((60 : Int), (27 : Int)) ∈ sgT)).mp (by omega)
        unfold wkT
        rw [if_neg (by decide), if_neg (by decide), if_neg (by decide), if_neg (by decide), if_neg (by decide), if_neg (by decide), if_neg (by decide), if_neg (by decide), if_neg (by decide)]
        exact (if_pos (show cmT 27 a b from (show a.toInt < b.toInt from by first | assumption | omega))).symm
    have c21 : ¬ (s).toInt = 60 := fun q => h21 ((rfl : (s).toInt = (s).toInt).trans q)
    refine ⟨fun h28 => ?_, fun h28 => ?_⟩
    · have c28 : (s).toInt = 62 := (rfl : (s).toInt = (s).toInt).symm.trans h28
      refine hB _ _ _ _ _ (fun m29 hm29 => ?_)
      dsimp only [ugo, uwp, ust, uct, rfd, Breckon, Breckon_331, Nat.beq, lv_args, rlk, rs1, rs2, rdl, rky, rcd, rno, rsw, Value.category, List.filter, List.take, List.drop, List.reverse, List.reverseAux, List.cons_append, List.nil_append, Option.toList, Int.toNat, Int.reduceToNat, if_pos, if_neg, reduceIte, ↓reduceIte, Nat.reduceAdd, Nat.reduceEqDiff, Nat.reduceBEq, beq_self_eq_true, Bool.not_true, Bool.not_false, Bool.and_true, Bool.and_false, Bool.true_and, Bool.false_and, gI_sI, gI_sL, gI_sA, gI_sM, gL_sI, gL_sL, gL_sA, gL_sM, aI_sI, aI_sL, aI_sA, aI_sM, aL_sI, aL_sL, aL_sA, aL_sM]; try dsimp only
      refine ⟨fun h30 => ?_, fun h30 => ?_⟩
      · have c30 : (a).toInt ≤ (b).toInt := (cL (a := b) (b := a)).2.2.2.1.mp h30
        refine hB _ _ _ _ _ (fun m31 hm31 => ?_)
        dsimp only [ugo, uwp, ust, uct, rfd, Breckon, Breckon_342, Nat.beq, lv_args, rlk, rs1, rs2, rdl, rky, rcd, rno, rsw, Value.category, List.filter, List.take, List.drop, List.reverse, List.reverseAux, List.cons_append, List.nil_append, Option.toList, Int.toNat, Int.reduceToNat, if_pos, if_neg, reduceIte, ↓reduceIte, Nat.reduceAdd, Nat.reduceEqDiff, Nat.reduceBEq, beq_self_eq_true, Bool.not_true, Bool.not_false, Bool.and_true, Bool.and_false, Bool.true_and, Bool.false_and, gI_sI, gI_sL, gI_sA, gI_sM, gL_sI, gL_sL, gL_sA, gL_sM, aI_sI, aI_sL, aI_sA, aI_sM, aL_sI, aL_sL, aL_sA, aL_sM]; try dsimp only
        refine hB _ _ _ _ _ (fun m32 hm32 => ?_)
        dsimp only [ugo, uwp, ust, uct, rfd, Breckon, Breckon_343, Nat.beq, lv_args, rlk, rs1, rs2, rdl, rky, rcd, rno, rsw, Value.category, List.filter, List.take, List.drop, List.reverse, List.reverseAux, List.cons_append, List.nil_append, Option.toList, Int.toNat, Int.reduceToNat, if_pos, if_neg, reduceIte, ↓reduceIte, Nat.reduceAdd, Nat.reduceEqDiff, Nat.reduceBEq, beq_self_eq_true, Bool.not_true, Bool.not_false, Bool.and_true, Bool.and_false, Bool.true_and, Bool.false_and, gI_sI, gI_sL, gI_sA, gI_sM, gL_sI, gL_sL, gL_sA, gL_sM, aI_sI, aI_sL, aI_sA, aI_sM, aL_sI, aL_sL, aL_sA, aL_sM]; try dsimp only
        unfold Qv_reckon
        try dsimp only
        refine ⟨rfl, _, rfl, fun sg hm hr h0 => ?_⟩
        obtain rfl : sg = 29 := (sg_n hm (by decide : ((62 : Int), (29 : Int)) ∈ sgT)).mp (by omega)
        unfold wkT
        rw [if_neg (by decide), if_neg (by decide), if_neg (by decide), if_neg (by decide), if_neg (by decide), if_neg (by decide), if_neg (by decide), if_neg (by decide), if_neg (by decide)]
        exact (if_neg (show ¬ cmT 29 a b from (show ¬ (b.toInt < a.toInt) from by first | assumption | omega | exact fun q => q (by assumption)))).symm
      · have c30 : (b).toInt < (a).toInt := (cL (a := b) (b := a)).2.2.1.mp (by first | exact h30 | exact Int32.not_lt.mp h30 | exact Int32.not_le.mp h30)
        refine hB _ _ _ _ _ (fun m33 hm33 => ?_)
        dsimp only [ugo, uwp, ust, uct, rfd, Breckon, Breckon_338, Nat.beq, lv_args, rlk, rs1, rs2, rdl, rky, rcd, rno, rsw, Value.category, List.filter, List.take, List.drop, List.reverse, List.reverseAux, List.cons_append, List.nil_append, Option.toList, Int.toNat, Int.reduceToNat, if_pos, if_neg, reduceIte, ↓reduceIte, Nat.reduceAdd, Nat.reduceEqDiff, Nat.reduceBEq, beq_self_eq_true, Bool.not_true, Bool.not_false, Bool.and_true, Bool.and_false, Bool.true_and, Bool.false_and, gI_sI, gI_sL, gI_sA, gI_sM, gL_sI, gL_sL, gL_sA, gL_sM, aI_sI, aI_sL, aI_sA, aI_sM, aL_sI, aL_sL, aL_sA, aL_sM]; try dsimp only
        refine hB _ _ _ _ _ (fun m34 hm34 => ?_)
        dsimp only [ugo, uwp, ust, uct, rfd, Breckon, Breckon_343, Nat.beq, lv_args, rlk, rs1, rs2, rdl, rky, rcd, rno, rsw, Value.category, List.filter, List.take, List.drop, List.reverse, List.reverseAux, List.cons_append, List.nil_append, Option.toList, Int.toNat, Int.reduceToNat, if_pos, if_neg, reduceIte, ↓reduceIte, Nat.reduceAdd, Nat.reduceEqDiff, Nat.reduceBEq, beq_self_eq_true, Bool.not_true, Bool.not_false, Bool.and_true, Bool.and_false, Bool.true_and, Bool.false_and, gI_sI, gI_sL, gI_sA, gI_sM, gL_sI, gL_sL, gL_sA, gL_sM, aI_sI, aI_sL, aI_sA, aI_sM, aL_sI, aL_sL, aL_sA, aL_sM]; try dsimp only
        unfold Qv_reckon
        try dsimp only
        refine ⟨rfl, _, rfl, fun sg hm hr h0 => ?_⟩
        obtain rfl : sg = 29 := (sg_n hm (by decide : ((62 : Int), (29 : Int)) ∈ sgT)).mp (by omega)
        unfold wkT
        rw [if_neg (by decide), if_neg (by decide), if_neg (by decide), if_neg (by decide), if_neg (by decide), if_neg (by decide), if_neg (by decide), if_neg (by decide), if_neg (by decide)]
        exact (if_pos (show cmT 29 a b from (show b.toInt < a.toInt from by first | assumption | omega))).symm
    have c28 : ¬ (s).toInt = 62 := fun q => h28 ((rfl : (s).toInt = (s).toInt).trans q)
    refine ⟨fun h35 => ?_, fun h35 => ?_⟩
    · have c35 : (s).toInt = 94 := (rfl : (s).toInt = (s).toInt).symm.trans h35
      refine hB _ _ _ _ _ (fun m36 hm36 => ?_)
      dsimp only [ugo, uwp, ust, uct, rfd, Breckon, Breckon_200, Nat.beq, lv_args, rlk, rs1, rs2, rdl, rky, rcd, rno, rsw, Value.category, List.filter, List.take, List.drop, List.reverse, List.reverseAux, List.cons_append, List.nil_append, Option.toList, Int.toNat, Int.reduceToNat, if_pos, if_neg, reduceIte, ↓reduceIte, Nat.reduceAdd, Nat.reduceEqDiff, Nat.reduceBEq, beq_self_eq_true, Bool.not_true, Bool.not_false, Bool.and_true, Bool.and_false, Bool.true_and, Bool.false_and, gI_sI, gI_sL, gI_sA, gI_sM, gL_sI, gL_sL, gL_sA, gL_sM, aI_sI, aI_sL, aI_sA, aI_sM, aL_sI, aL_sL, aL_sA, aL_sM]; try dsimp only
      unfold Qv_reckon
      try dsimp only
      refine ⟨rfl, _, rfl, fun sg hm hr h0 => ?_⟩
      obtain rfl : sg = 23 := (sg_n hm (by decide : ((94 : Int), (23 : Int)) ∈ sgT)).mp (by omega)
      unfold wkT
      rw [if_neg (by decide), if_neg (by decide), if_neg (by decide), if_neg (by decide), if_neg (by decide), if_neg (by decide), if_neg (by decide), if_pos rfl]
      all_goals rfl
    have c35 : ¬ (s).toInt = 94 := fun q => h35 ((rfl : (s).toInt = (s).toInt).trans q)
    refine ⟨fun h37 => ?_, fun h37 => ?_⟩
    · have c37 : (s).toInt = 124 := (rfl : (s).toInt = (s).toInt).symm.trans h37
      refine hB _ _ _ _ _ (fun m38 hm38 => ?_)
      dsimp only [ugo, uwp, ust, uct, rfd, Breckon, Breckon_195, Nat.beq, lv_args, rlk, rs1, rs2, rdl, rky, rcd, rno, rsw, Value.category, List.filter, List.take, List.drop, List.reverse, List.reverseAux, List.cons_append, List.nil_append, Option.toList, Int.toNat, Int.reduceToNat, if_pos, if_neg, reduceIte, ↓reduceIte, Nat.reduceAdd, Nat.reduceEqDiff, Nat.reduceBEq, beq_self_eq_true, Bool.not_true, Bool.not_false, Bool.and_true, Bool.and_false, Bool.true_and, Bool.false_and, gI_sI, gI_sL, gI_sA, gI_sM, gL_sI, gL_sL, gL_sA, gL_sM, aI_sI, aI_sL, aI_sA, aI_sM, aL_sI, aL_sL, aL_sA, aL_sM]; try dsimp only
      unfold Qv_reckon
      try dsimp only
      refine ⟨rfl, _, rfl, fun sg hm hr h0 => ?_⟩
      obtain rfl : sg = 22 := (sg_n hm (by decide : ((124 : Int), (22 : Int)) ∈ sgT)).mp (by omega)
      unfold wkT
      rw [if_neg (by decide), if_neg (by decide), if_neg (by decide), if_neg (by decide), if_neg (by decide), if_neg (by decide), if_pos rfl]
      all_goals rfl
    have c37 : ¬ (s).toInt = 124 := fun q => h37 ((rfl : (s).toInt = (s).toInt).trans q)
    refine ⟨fun h39 => ?_, fun h39 => ?_⟩
    · have c39 : (s).toInt = 300 := (rfl : (s).toInt = (s).toInt).symm.trans h39
      refine hB _ _ _ _ _ (fun m40 hm40 => ?_)
      dsimp only [ugo, uwp, ust, uct, rfd, Breckon, Breckon_292, Nat.beq, lv_args, rlk, rs1, rs2, rdl, rky, rcd, rno, rsw, Value.category, List.filter, List.take, List.drop, List.reverse, List.reverseAux, List.cons_append, List.nil_append, Option.toList, Int.toNat, Int.reduceToNat, if_pos, if_neg, reduceIte, ↓reduceIte, Nat.reduceAdd, Nat.reduceEqDiff, Nat.reduceBEq, beq_self_eq_true, Bool.not_true, Bool.not_false, Bool.and_true, Bool.and_false, Bool.true_and, Bool.false_and, gI_sI, gI_sL, gI_sA, gI_sM, gL_sI, gL_sL, gL_sA, gL_sM, aI_sI, aI_sL, aI_sA, aI_sM, aL_sI, aL_sL, aL_sA, aL_sM]; try dsimp only
      refine ⟨fun h41 => ?_, fun h41 => ?_⟩
      · have c41 : ¬ a = b := fun q => h41 ((cL (a := b) (b := a)).1.mpr q)
        refine hB _ _ _ _ _ (fun m42 hm42 => ?_)
        dsimp only [ugo, uwp, ust, uct, rfd, Breckon, Breckon_303, Nat.beq, lv_args, rlk, rs1, rs2, rdl, rky, rcd, rno, rsw, Value.category, List.filter, List.take, List.drop, List.reverse, List.reverseAux, List.cons_append, List.nil_append, Option.toList, Int.toNat, Int.reduceToNat, if_pos, if_neg, reduceIte, ↓reduceIte, Nat.reduceAdd, Nat.reduceEqDiff, Nat.reduceBEq, beq_self_eq_true, Bool.not_true, Bool.not_false, Bool.and_true, Bool.and_false, Bool.true_and, Bool.false_and, gI_sI, gI_sL, gI_sA, gI_sM, gL_sI, gL_sL, gL_sA, gL_sM, aI_sI, aI_sL, aI_sA, aI_sM, aL_sI, aL_sL, aL_sA, aL_sM]; try dsimp only
        refine hB _ _ _ _ _ (fun m43 hm43 => ?_)
        dsimp only [ugo, uwp, ust, uct, rfd, Breckon, Breckon_304, Nat.beq, lv_args, rlk, rs1, rs2, rdl, rky, rcd, rno, rsw, Value.category, List.filter, List.take, List.drop, List.reverse, List.reverseAux, List.cons_append, List.nil_append, Option.toList, Int.toNat, Int.reduceToNat, if_pos, if_neg, reduceIte, ↓reduceIte, Nat.reduceAdd, Nat.reduceEqDiff, Nat.reduceBEq, beq_self_eq_true, Bool.not_true, Bool.not_false, Bool.and_true, Bool.and_false, Bool.true_and, Bool.false_and, gI_sI, gI_sL, gI_sA, gI_sM, gL_sI, gL_sL, gL_sA, gL_sM, aI_sI, aI_sL, aI_sA, aI_sM, aL_sI, aL_sL, aL_sA, aL_sM]; try dsimp only
        unfold Qv_reckon
        try dsimp only
        refine ⟨rfl, _, rfl, fun sg hm hr h0 => ?_⟩
        obtain rfl : sg = 25 := (sg_n hm (by decide : ((300 : Int), (25 : Int)) ∈ sgT)).mp (by omega)
        unfold wkT
        rw [if_neg (by decide), if_neg (by decide), if_neg (by decide), if_neg (by decide), if_neg (by decide), if_neg (by decide), if_neg (by decide), if_neg (by decide), if_neg (by decide)]
        exact (if_neg (show ¬ cmT 25 a b from (show ¬ (a = b) from by first | assumption | omega | exact fun q => q (by assumption)))).symm
      · have c41 : a = b := (cL (a := b) (b := a)).1.mp h41
        refine hB _ _ _ _ _ (fun m44 hm44 => ?_)
        dsimp only [ugo, uwp, ust, uct, rfd, Breckon, Breckon_299, Nat.beq, lv_args, rlk, rs1, rs2, rdl, rky, rcd, rno, rsw, Value.category, List.filter, List.take, List.drop, List.reverse, List.reverseAux, List.cons_append, List.nil_append, Option.toList, Int.toNat, Int.reduceToNat, if_pos, if_neg, reduceIte, ↓reduceIte, Nat.reduceAdd, Nat.reduceEqDiff, Nat.reduceBEq, beq_self_eq_true, Bool.not_true, Bool.not_false, Bool.and_true, Bool.and_false, Bool.true_and, Bool.false_and, gI_sI, gI_sL, gI_sA, gI_sM, gL_sI, gL_sL, gL_sA, gL_sM, aI_sI, aI_sL, aI_sA, aI_sM, aL_sI, aL_sL, aL_sA, aL_sM]; try dsimp only
        refine hB _ _ _ _ _ (fun m45 hm45 => ?_)
        dsimp only [ugo, uwp, ust, uct, rfd, Breckon, Breckon_304, Nat.beq, lv_args, rlk, rs1, rs2, rdl, rky, rcd, rno, rsw, Value.category, List.filter, List.take, List.drop, List.reverse, List.reverseAux, List.cons_append, List.nil_append, Option.toList, Int.toNat, Int.reduceToNat, if_pos, if_neg, reduceIte, ↓reduceIte, Nat.reduceAdd, Nat.reduceEqDiff, Nat.reduceBEq, beq_self_eq_true, Bool.not_true, Bool.not_false, Bool.and_true, Bool.and_false, Bool.true_and, Bool.false_and, gI_sI, gI_sL, gI_sA, gI_sM, gL_sI, gL_sL, gL_sA, gL_sM, aI_sI, aI_sL, aI_sA, aI_sM, aL_sI, aL_sL, aL_sA, aL_sM]; try dsimp only
        unfold Qv_reckon
        try dsimp only
        refine ⟨rfl, _, rfl, fun sg hm hr h0 => ?_⟩
        obtain rfl : sg = 25 := (sg_n hm (by decide : ((300 : Int), (25 : Int)) ∈ sgT)).mp (by omega)
        unfold wkT
        rw [if_neg (by decide), if_neg (by decide), if_neg (by decide), if_neg (by decide), if_neg (by decide), if_neg (by decide), if_neg (by decide), if_neg (by decide), if_neg (by decide)]
        exact (if_pos (show cmT 25 a b from (show a = b from by first | assumption | omega))).symm
    have c39 : ¬ (s).toInt = 300 := fun q => h39 ((rfl : (s).toInt = (s).toInt).trans q)
    refine ⟨fun h46 => ?_, fun h46 => ?_⟩
    · have c46 : (s).toInt = 301 := (rfl : (s).toInt = (s).toInt).symm.trans h46
      refine hB _ _ _ _ _ (fun m47 hm47 => ?_)
      dsimp only [ugo, uwp, ust, uct, rfd, Breckon, Breckon_305, Nat.beq, lv_args, rlk, rs1, rs2, rdl, rky, rcd, rno, rsw, Value.category, List.filter, List.take, List.drop, List.reverse, List.reverseAux, List.cons_append, List.nil_append, Option.toList, Int.toNat, Int.reduceToNat, if_pos, if_neg, reduceIte, ↓reduceIte, Nat.reduceAdd, Nat.reduceEqDiff, Nat.reduceBEq, beq_self_eq_true, Bool.not_true, Bool.not_false, Bool.and_true, Bool.and_false, Bool.true_and, Bool.false_and, gI_sI, gI_sL, gI_sA, gI_sM, gL_sI, gL_sL, gL_sA, gL_sM, aI_sI, aI_sL, aI_sA, aI_sM, aL_sI, aL_sL, aL_sA, aL_sM]; try dsimp only
      refine ⟨fun h48 => ?_, fun h48 => ?_⟩
      · have c48 : a = b := (cL (a := b) (b := a)).1.mp h48
        refine hB _ _ _ _ _ (fun m49 hm49 => ?_)
        dsimp only [ugo, uwp, ust, uct, rfd, Breckon, Breckon_316, Nat.beq, lv_args, rlk, rs1, rs2, rdl, rky, rcd, rno, rsw, Value.category, List.filter, List.take, List.drop, List.reverse, List.reverseAux, List.cons_append, List.nil_append, Option.toList, Int.toNat, Int.reduceToNat, if_pos, if_neg, reduceIte, ↓reduceIte, Nat.reduceAdd, Nat.reduceEqDiff, Nat.reduceBEq, beq_self_eq_true, Bool.not_true, Bool.not_false, Bool.and_true, Bool.and_false, Bool.true_and, Bool.false_and, gI_sI, gI_sL, gI_sA, gI_sM, gL_sI, gL_sL, gL_sA, gL_sM, aI_sI, aI_sL, aI_sA, aI_sM, aL_sI, aL_sL, aL_sA, aL_sM]; try dsimp only
        refine hB _ _ _ _ _ (fun m50 hm50 => ?_)
        dsimp only [ugo, uwp, ust, uct, rfd, Breckon, Breckon_317, Nat.beq, lv_args, rlk, rs1, rs2, rdl, rky, rcd, rno, rsw, Value.category, List.filter, List.take, List.drop, List.reverse, List.reverseAux, List.cons_append, List.nil_append, Option.toList, Int.toNat, Int.reduceToNat, if_pos, if_neg, reduceIte, ↓reduceIte, Nat.reduceAdd, Nat.reduceEqDiff, Nat.reduceBEq, beq_self_eq_true, Bool.not_true, Bool.not_false, Bool.and_true, Bool.and_false, Bool.true_and, Bool.false_and, gI_sI, gI_sL, gI_sA, gI_sM, gL_sI, gL_sL, gL_sA, gL_sM, aI_sI, aI_sL, aI_sA, aI_sM, aL_sI, aL_sL, aL_sA, aL_sM]; try dsimp only
        unfold Qv_reckon
        try dsimp only
        refine ⟨rfl, _, rfl, fun sg hm hr h0 => ?_⟩
        obtain rfl : sg = 26 := (sg_n hm (by decide : ((301 : Int), (26 : Int)) ∈ sgT)).mp (by omega)
        unfold wkT
        rw [if_neg (by decide), if_neg (by decide), if_neg (by decide), if_neg (by decide), if_neg (by decide), if_neg (by decide), if_neg (by decide), if_neg (by decide), if_neg (by decide)]
        exact (if_neg (show ¬ cmT 26 a b from (show ¬ (¬ a = b) from by first | assumption | omega | exact fun q => q (by assumption)))).symm
      · have c48 : ¬ a = b := fun q => h48 ((cL (a := b) (b := a)).1.mpr q)
        refine hB _ _ _ _ _ (fun m51 hm51 => ?_)
        dsimp only [ugo, uwp, ust, uct, rfd, Breckon, Breckon_312, Nat.beq, lv_args, rlk, rs1, rs2, rdl, rky, rcd, rno, rsw, Value.category, List.filter, List.take, List.drop, List.reverse, List.reverseAux, List.cons_append, List.nil_append, Option.toList, Int.toNat, Int.reduceToNat, if_pos, if_neg, reduceIte, ↓reduceIte, Nat.reduceAdd, Nat.reduceEqDiff, Nat.reduceBEq, beq_self_eq_true, Bool.not_true, Bool.not_false, Bool.and_true, Bool.and_false, Bool.true_and, Bool.false_and, gI_sI, gI_sL, gI_sA, gI_sM, gL_sI, gL_sL, gL_sA, gL_sM, aI_sI, aI_sL, aI_sA, aI_sM, aL_sI, aL_sL, aL_sA, aL_sM]; try dsimp only
        refine hB _ _ _ _ _ (fun m52 hm52 => ?_)
        dsimp only [ugo, uwp, ust, uct, rfd, Breckon, Breckon_317, Nat.beq, lv_args, rlk, rs1, rs2, rdl, rky, rcd, rno, rsw, Value.category, List.filter, List.take, List.drop, List.reverse, List.reverseAux, List.cons_append, List.nil_append, Option.toList, Int.toNat, Int.reduceToNat, if_pos, if_neg, reduceIte, ↓reduceIte, Nat.reduceAdd, Nat.reduceEqDiff, Nat.reduceBEq, beq_self_eq_true, Bool.not_true, Bool.not_false, Bool.and_true, Bool.and_false, Bool.true_and, Bool.false_and, gI_sI, gI_sL, gI_sA, gI_sM, gL_sI, gL_sL, gL_sA, gL_sM, aI_sI, aI_sL, aI_sA, aI_sM, aL_sI, aL_sL, aL_sA, aL_sM]; try dsimp only
        unfold Qv_reckon
        try dsimp only
        refine ⟨rfl, _, rfl, fun sg hm hr h0 => ?_⟩
        obtain rfl : sg = 26 := (sg_n hm (by decide : ((301 : Int), (26 : Int)) ∈ sgT)).mp (by omega)
        unfold wkT
        rw [if_neg (by decide), if_neg (by decide), if_neg (by decide), if_neg (by decide), if_neg (by decide), if_neg (by decide), if_neg (by decide), if_neg (by decide), if_neg (by decide)]
        exact (if_pos (show cmT 26 a b from (show ¬ a = b from by first | assumption | omega))).symm
    have c46 : ¬ (s).toInt = 301 := fun q => h46 ((rfl : (s).toInt = (s).toInt).trans q)
    refine ⟨fun h53 => ?_, fun h53 => ?_⟩
    · have c53 : (s).toInt = 302 := (rfl : (s).toInt = (s).toInt).symm.trans h53
      refine hB _ _ _ _ _ (fun m54 hm54 => ?_)
      dsimp only [ugo, uwp, ust, uct, rfd, Breckon, Breckon_344, Nat.beq, lv_args, rlk, rs1, rs2, rdl, rky, rcd, rno, rsw, Value.category, List.filter, List.take, List.drop, List.reverse, List.reverseAux, List.cons_append, List.nil_append, Option.toList, Int.toNat, Int.reduceToNat, if_pos, if_neg, reduceIte, ↓reduceIte, Nat.reduceAdd, Nat.reduceEqDiff, Nat.reduceBEq, beq_self_eq_true, Bool.not_true, Bool.not_false, Bool.and_true, Bool.and_false, Bool.true_and, Bool.false_and, gI_sI, gI_sL, gI_sA, gI_sM, gL_sI, gL_sL, gL_sA, gL_sM, aI_sI, aI_sL, aI_sA, aI_sM, aL_sI, aL_sL, aL_sA, aL_sM]; try dsimp only
      refine ⟨fun h55 => ?_, fun h55 => ?_⟩
      · have c55 : (b).toInt < (a).toInt := (cL (a := b) (b := a)).2.2.1.mp h55
        refine hB _ _ _ _ _ (fun m56 hm56 => ?_)
        dsimp only [ugo, uwp, ust, uct, rfd, Breckon, Breckon_355, Nat.beq, lv_args, rlk, rs1, rs2, rdl, rky, rcd, rno, rsw, Value.category, List.filter, List.take, List.drop, List.reverse, List.reverseAux, List.cons_append, List.nil_append, Option.toList, Int.toNat, Int.reduceToNat, if_pos, if_neg, reduceIte, ↓reduceIte, Nat.reduceAdd, Nat.reduceEqDiff, Nat.reduceBEq, beq_self_eq_true, Bool.not_true, Bool.not_false, Bool.and_true, Bool.and_false, Bool.true_and, Bool.false_and, gI_sI, gI_sL, gI_sA, gI_sM, gL_sI, gL_sL, gL_sA, gL_sM, aI_sI, aI_sL, aI_sA, aI_sM, aL_sI, aL_sL, aL_sA, aL_sM]; try dsimp only
        refine hB _ _ _ _ _ (fun m57 hm57 => ?_)
        dsimp only [ugo, uwp, ust, uct, rfd, Breckon, Breckon_356, Nat.beq, lv_args, rlk, rs1, rs2, rdl, rky, rcd, rno, rsw, Value.category, List.filter, List.take, List.drop, List.reverse, List.reverseAux, List.cons_append, List.nil_append, Option.toList, Int.toNat, Int.reduceToNat, if_pos, if_neg, reduceIte, ↓reduceIte, Nat.reduceAdd, Nat.reduceEqDiff, Nat.reduceBEq, beq_self_eq_true, Bool.not_true, Bool.not_false, Bool.and_true, Bool.and_false, Bool.true_and, Bool.false_and, gI_sI, gI_sL, gI_sA, gI_sM, gL_sI, gL_sL, gL_sA, gL_sM, aI_sI, aI_sL, aI_sA, aI_sM, aL_sI, aL_sL, aL_sA, aL_sM]; try dsimp only
        unfold Qv_reckon
        try dsimp only
        refine ⟨rfl, _, rfl, fun sg hm hr h0 => ?_⟩
        obtain rfl : sg = 28 := (sg_n hm (by decide : ((302 : Int), (28 : Int)) ∈ sgT)).mp (by omega)
        unfold wkT
        rw [if_neg (by decide), if_neg (by decide), if_neg (by decide), if_neg (by decide), if_neg (by decide), if_neg (by decide), if_neg (by decide), if_neg (by decide), if_neg (by decide)]
        exact (if_neg (show ¬ cmT 28 a b from (show ¬ (a.toInt ≤ b.toInt) from by first | assumption | omega | exact fun q => q (by assumption)))).symm
      · have c55 : (a).toInt ≤ (b).toInt := (cL (a := b) (b := a)).2.2.2.1.mp (by first | exact h55 | exact Int32.not_lt.mp h55 | exact Int32.not_le.mp h55)
        refine hB _ _ _ _ _ (fun m58 hm58 => ?_)
        dsimp only [ugo, uwp, ust, uct, rfd, Breckon, Breckon_351, Nat.beq, lv_args, rlk, rs1, rs2, rdl, rky, rcd, rno, rsw, Value.category, List.filter, List.take, List.drop, List.reverse, List.reverseAux, List.cons_append, List.nil_append, Option.toList, Int.toNat, Int.reduceToNat, if_pos, if_neg, reduceIte, ↓reduceIte, Nat.reduceAdd, Nat.reduceEqDiff, Nat.reduceBEq, beq_self_eq_true, Bool.not_true, Bool.not_false, Bool.and_true, Bool.and_false, Bool.true_and, Bool.false_and, gI_sI, gI_sL, gI_sA, gI_sM, gL_sI, gL_sL, gL_sA, gL_sM, aI_sI, aI_sL, aI_sA, aI_sM, aL_sI, aL_sL, aL_sA, aL_sM]; try dsimp only
        refine hB _ _ _ _ _ (fun m59 hm59 => ?_)
        dsimp only [ugo, uwp, ust, uct, rfd, Breckon, Breckon_356, Nat.beq, lv_args, rlk, rs1, rs2, rdl, rky, rcd, rno, rsw, Value.category, List.filter, List.take, List.drop, List.reverse, List.reverseAux, List.cons_append, List.nil_append, Option.toList, Int.toNat, Int.reduceToNat, if_pos, if_neg, reduceIte, ↓reduceIte, Nat.reduceAdd, Nat.reduceEqDiff, Nat.reduceBEq, beq_self_eq_true, Bool.not_true, Bool.not_false, Bool.and_true, Bool.and_false, Bool.true_and, Bool.false_and, gI_sI, gI_sL, gI_sA, gI_sM, gL_sI, gL_sL, gL_sA, gL_sM, aI_sI, aI_sL, aI_sA, aI_sM, aL_sI, aL_sL, aL_sA, aL_sM]; try dsimp only
        unfold Qv_reckon
        try dsimp only
        refine ⟨rfl, _, rfl, fun sg hm hr h0 => ?_⟩
        obtain rfl : sg = 28 := (sg_n hm (by decide : ((302 : Int), (28 : Int)) ∈ sgT)).mp (by omega)
        unfold wkT
        rw [if_neg (by decide), if_neg (by decide), if_neg (by decide), if_neg (by decide), if_neg (by decide), if_neg (by decide), if_neg (by decide), if_neg (by decide), if_neg (by decide)]
        exact (if_pos (show cmT 28 a b from (show a.toInt ≤ b.toInt from by first | assumption | omega))).symm
    have c53 : ¬ (s).toInt = 302 := fun q => h53 ((rfl : (s).toInt = (s).toInt).trans q)
    refine ⟨fun h60 => ?_, fun h60 => ?_⟩
    · have c60 : (s).toInt = 304 := (rfl : (s).toInt = (s).toInt).symm.trans h60
      refine hB _ _ _ _ _ (fun m61 hm61 => ?_)
      dsimp only [ugo, uwp, ust, uct, rfd, Breckon, Breckon_205, Nat.beq, lv_args, rlk, rs1, rs2, rdl, rky, rcd, rno, rsw, Value.category, List.filter, List.take, List.drop, List.reverse, List.reverseAux, List.cons_append, List.nil_append, Option.toList, Int.toNat, Int.reduceToNat, if_pos, if_neg, reduceIte, ↓reduceIte, Nat.reduceAdd, Nat.reduceEqDiff, Nat.reduceBEq, beq_self_eq_true, Bool.not_true, Bool.not_false, Bool.and_true, Bool.and_false, Bool.true_and, Bool.false_and, gI_sI, gI_sL, gI_sA, gI_sM, gL_sI, gL_sL, gL_sA, gL_sM, aI_sI, aI_sL, aI_sA, aI_sM, aL_sI, aL_sL, aL_sA, aL_sM, oi_4]; try dsimp only
      refine ⟨fun h62 => ?_, fun h62 => ?_⟩
      · have c62 : ¬ (work).toInt = 4 := fun q => h62 ((cI (rfl : (work).toInt = (work).toInt) (rfl : (4 : Int32).toInt = 4)).1.mpr q)
        refine hB _ _ _ _ _ (fun m63 hm63 => ?_)
        dsimp only [ugo, uwp, ust, uct, rfd, Breckon, Breckon_222, Nat.beq, lv_args, rlk, rs1, rs2, rdl, rky, rcd, rno, rsw, Value.category, List.filter, List.take, List.drop, List.reverse, List.reverseAux, List.cons_append, List.nil_append, Option.toList, Int.toNat, Int.reduceToNat, if_pos, if_neg, reduceIte, ↓reduceIte, Nat.reduceAdd, Nat.reduceEqDiff, Nat.reduceBEq, beq_self_eq_true, Bool.not_true, Bool.not_false, Bool.and_true, Bool.and_false, Bool.true_and, Bool.false_and, gI_sI, gI_sL, gI_sA, gI_sM, gL_sI, gL_sL, gL_sA, gL_sM, aI_sI, aI_sL, aI_sA, aI_sM, aL_sI, aL_sL, aL_sA, aL_sM]; try dsimp only
        refine hB _ _ _ _ _ (fun m64 hm64 => ?_)
        dsimp only [ugo, uwp, ust, uct, rfd, Breckon, Breckon_233, Nat.beq, lv_args, rlk, rs1, rs2, rdl, rky, rcd, rno, rsw, Value.category, List.filter, List.take, List.drop, List.reverse, List.reverseAux, List.cons_append, List.nil_append, Option.toList, Int.toNat, Int.reduceToNat, if_pos, if_neg, reduceIte, ↓reduceIte, Nat.reduceAdd, Nat.reduceEqDiff, Nat.reduceBEq, beq_self_eq_true, Bool.not_true, Bool.not_false, Bool.and_true, Bool.and_false, Bool.true_and, Bool.false_and, gI_sI, gI_sL, gI_sA, gI_sM, gL_sI, gL_sL, gL_sA, gL_sM, aI_sI, aI_sL, aI_sA, aI_sM, aL_sI, aL_sL, aL_sA, aL_sM]; try dsimp only
        unfold Qv_reckon
        try dsimp only
        refine ⟨rfl, _, rfl, fun sg hm hr h0 => ?_⟩
        obtain rfl : sg = 31 := (sg_n hm (by decide : ((304 : Int), (31 : Int)) ∈ sgT)).mp (by omega)
        unfold wkT
        rw [if_neg (by decide), if_neg (by decide), if_neg (by decide), if_neg (by decide), if_neg (by decide), if_neg (by decide), if_neg (by decide), if_neg (by decide), if_pos (by decide)]
        unfold shT
        first | (rw [if_pos (by omega)]; rfl) | (rw [if_neg (by omega)]; rfl)
      · have c62 : (work).toInt = 4 := (cI (rfl : (work).toInt = (work).toInt) (rfl : (4 : Int32).toInt = 4)).1.mp h62
        refine hB _ _ _ _ _ (fun m65 hm65 => ?_)
        dsimp only [ugo, uwp, ust, uct, rfd, Breckon, Breckon_210, Nat.beq, lv_args, rlk, rs1, rs2, rdl, rky, rcd, rno, rsw, Value.category, List.filter, List.take, List.drop, List.reverse, List.reverseAux, List.cons_append, List.nil_append, Option.toList, Int.toNat, Int.reduceToNat, if_pos, if_neg, reduceIte, ↓reduceIte, Nat.reduceAdd, Nat.reduceEqDiff, Nat.reduceBEq, beq_self_eq_true, Bool.not_true, Bool.not_false, Bool.and_true, Bool.and_false, Bool.true_and, Bool.false_and, gI_sI, gI_sL, gI_sA, gI_sM, gL_sI, gL_sL, gL_sA, gL_sM, aI_sI, aI_sL, aI_sA, aI_sM, aL_sI, aL_sL, aL_sA, aL_sM]; try dsimp only
        refine hB _ _ _ _ _ (fun m66 hm66 => ?_)
        dsimp only [ugo, uwp, ust, uct, rfd, Breckon, Breckon_233, Nat.beq, lv_args, rlk, rs1, rs2, rdl, rky, rcd, rno, rsw, Value.category, List.filter, List.take, List.drop, List.reverse, List.reverseAux, List.cons_append, List.nil_append, Option.toList, Int.toNat, Int.reduceToNat, if_pos, if_neg, reduceIte, ↓reduceIte, Nat.reduceAdd, Nat.reduceEqDiff, Nat.reduceBEq, beq_self_eq_true, Bool.not_true, Bool.not_false, Bool.and_true, Bool.and_false, Bool.true_and, Bool.false_and, gI_sI, gI_sL, gI_sA, gI_sM, gL_sI, gL_sL, gL_sA, gL_sM, aI_sI, aI_sL, aI_sA, aI_sM, aL_sI, aL_sL, aL_sA, aL_sM]; try dsimp only
        unfold Qv_reckon
        try dsimp only
        refine ⟨rfl, _, rfl, fun sg hm hr h0 => ?_⟩
        obtain rfl : sg = 31 := (sg_n hm (by decide : ((304 : Int), (31 : Int)) ∈ sgT)).mp (by omega)
        unfold wkT
        rw [if_neg (by decide), if_neg (by decide), if_neg (by decide), if_neg (by decide), if_neg (by decide), if_neg (by decide), if_neg (by decide), if_neg (by decide), if_pos (by decide)]
        unfold shT
        first | (rw [if_pos (by omega)]; rfl) | (rw [if_neg (by omega)]; rfl)
    have c60 : ¬ (s).toInt = 304 := fun q => h60 ((rfl : (s).toInt = (s).toInt).trans q)
    refine ⟨fun h67 => ?_, fun h67 => ?_⟩
    · have c67 : (s).toInt = 305 := (rfl : (s).toInt = (s).toInt).symm.trans h67
      refine hB _ _ _ _ _ (fun m68 hm68 => ?_)
      dsimp only [ugo, uwp, ust, uct, rfd, Breckon, Breckon_234, Nat.beq, lv_args, rlk, rs1, rs2, rdl, rky, rcd, rno, rsw, Value.category, List.filter, List.take, List.drop, List.reverse, List.reverseAux, List.cons_append, List.nil_append, Option.toList, Int.toNat, Int.reduceToNat, if_pos, if_neg, reduceIte, ↓reduceIte, Nat.reduceAdd, Nat.reduceEqDiff, Nat.reduceBEq, beq_self_eq_true, Bool.not_true, Bool.not_false, Bool.and_true, Bool.and_false, Bool.true_and, Bool.false_and, gI_sI, gI_sL, gI_sA, gI_sM, gL_sI, gL_sL, gL_sA, gL_sM, aI_sI, aI_sL, aI_sA, aI_sM, aL_sI, aL_sL, aL_sA, aL_sM, oi_4]; try dsimp only
      refine ⟨fun h69 => ?_, fun h69 => ?_⟩
      · have c69 : ¬ (work).toInt = 4 := fun q => h69 ((cI (rfl : (work).toInt = (work).toInt) (rfl : (4 : Int32).toInt = 4)).1.mpr q)
        refine hB _ _ _ _ _ (fun m70 hm70 => ?_)
        dsimp only [ugo, uwp, ust, uct, rfd, Breckon, Breckon_251, Nat.beq, lv_args, rlk, rs1, rs2, rdl, rky, rcd, rno, rsw, Value.category, List.filter, List.take, List.drop, List.reverse, List.reverseAux, List.cons_append, List.nil_append, Option.toList, Int.toNat, Int.reduceToNat, if_pos, if_neg, reduceIte, ↓reduceIte, Nat.reduceAdd, Nat.reduceEqDiff, Nat.reduceBEq, beq_self_eq_true, Bool.not_true, Bool.not_false, Bool.and_true, Bool.and_false, Bool.true_and, Bool.false_and, gI_sI, gI_sL, gI_sA, gI_sM, gL_sI, gL_sL, gL_sA, gL_sM, aI_sI, aI_sL, aI_sA, aI_sM, aL_sI, aL_sL, aL_sA, aL_sM]; try dsimp only
        refine hB _ _ _ _ _ (fun m71 hm71 => ?_)
        dsimp only [ugo, uwp, ust, uct, rfd, Breckon, Breckon_262, Nat.beq, lv_args, rlk, rs1, rs2, rdl, rky, rcd, rno, rsw, Value.category, List.filter, List.take, List.drop, List.reverse, List.reverseAux, List.cons_append, List.nil_append, Option.toList, Int.toNat, Int.reduceToNat, if_pos, if_neg, reduceIte, ↓reduceIte, Nat.reduceAdd, Nat.reduceEqDiff, Nat.reduceBEq, beq_self_eq_true, Bool.not_true, Bool.not_false, Bool.and_true, Bool.and_false, Bool.true_and, Bool.false_and, gI_sI, gI_sL, gI_sA, gI_sM, gL_sI, gL_sL, gL_sA, gL_sM, aI_sI, aI_sL, aI_sA, aI_sM, aL_sI, aL_sL, aL_sA, aL_sM]; try dsimp only
        unfold Qv_reckon
        try dsimp only
        refine ⟨rfl, _, rfl, fun sg hm hr h0 => ?_⟩
        obtain rfl : sg = 32 := (sg_n hm (by decide : ((305 : Int), (32 : Int)) ∈ sgT)).mp (by omega)
        unfold wkT
        rw [if_neg (by decide), if_neg (by decide), if_neg (by decide), if_neg (by decide), if_neg (by decide), if_neg (by decide), if_neg (by decide), if_neg (by decide), if_pos (by decide)]
        unfold shT
        first | (rw [if_pos (by omega)]; rfl) | (rw [if_neg (by omega)]; rfl)
      · have c69 : (work).toInt = 4 := (cI (rfl : (work).toInt = (work).toInt) (rfl : (4 : Int32).toInt = 4)).1.mp h69
        refine hB _ _ _ _ _ (fun m72 hm72 => ?_)
        dsimp only [ugo, uwp, ust, uct, rfd, Breckon, Breckon_239, Nat.beq, lv_args, rlk, rs1, rs2, rdl, rky, rcd, rno, rsw, Value.category, List.filter, List.take, List.drop, List.reverse, List.reverseAux, List.cons_append, List.nil_append, Option.toList, Int.toNat, Int.reduceToNat, if_pos, if_neg, reduceIte, ↓reduceIte, Nat.reduceAdd, Nat.reduceEqDiff, Nat.reduceBEq, beq_self_eq_true, Bool.not_true, Bool.not_false, Bool.and_true, Bool.and_false, Bool.true_and, Bool.false_and, gI_sI, gI_sL, gI_sA, gI_sM, gL_sI, gL_sL, gL_sA, gL_sM, aI_sI, aI_sL, aI_sA, aI_sM, aL_sI, aL_sL, aL_sA, aL_sM]; try dsimp only
        refine hB _ _ _ _ _ (fun m73 hm73 => ?_)
        dsimp only [ugo, uwp, ust, uct, rfd, Breckon, Breckon_262, Nat.beq, lv_args, rlk, rs1, rs2, rdl, rky, rcd, rno, rsw, Value.category, List.filter, List.take, List.drop, List.reverse, List.reverseAux, List.cons_append, List.nil_append, Option.toList, Int.toNat, Int.reduceToNat, if_pos, if_neg, reduceIte, ↓reduceIte, Nat.reduceAdd, Nat.reduceEqDiff, Nat.reduceBEq, beq_self_eq_true, Bool.not_true, Bool.not_false, Bool.and_true, Bool.and_false, Bool.true_and, Bool.false_and, gI_sI, gI_sL, gI_sA, gI_sM, gL_sI, gL_sL, gL_sA, gL_sM, aI_sI, aI_sL, aI_sA, aI_sM, aL_sI, aL_sL, aL_sA, aL_sM]; try dsimp only
        unfold Qv_reckon
        try dsimp only
        refine ⟨rfl, _, rfl, fun sg hm hr h0 => ?_⟩
        obtain rfl : sg = 32 := (sg_n hm (by decide : ((305 : Int), (32 : Int)) ∈ sgT)).mp (by omega)
        unfold wkT
        rw [if_neg (by decide), if_neg (by decide), if_neg (by decide), if_neg (by decide), if_neg (by decide), if_neg (by decide), if_neg (by decide), if_neg (by decide), if_pos (by decide)]
        unfold shT
        first | (rw [if_pos (by omega)]; rfl) | (rw [if_neg (by omega)]; rfl)
    have c67 : ¬ (s).toInt = 305 := fun q => h67 ((rfl : (s).toInt = (s).toInt).trans q)
    refine ⟨fun h74 => ?_, fun h74 => ?_⟩
    · have c74 : (s).toInt = 306 := (rfl : (s).toInt = (s).toInt).symm.trans h74
      refine hB _ _ _ _ _ (fun m75 hm75 => ?_)
      dsimp only [ugo, uwp, ust, uct, rfd, Breckon, Breckon_263, Nat.beq, lv_args, rlk, rs1, rs2, rdl, rky, rcd, rno, rsw, Value.category, List.filter, List.take, List.drop, List.reverse, List.reverseAux, List.cons_append, List.nil_append, Option.toList, Int.toNat, Int.reduceToNat, if_pos, if_neg, reduceIte, ↓reduceIte, Nat.reduceAdd, Nat.reduceEqDiff, Nat.reduceBEq, beq_self_eq_true, Bool.not_true, Bool.not_false, Bool.and_true, Bool.and_false, Bool.true_and, Bool.false_and, gI_sI, gI_sL, gI_sA, gI_sM, gL_sI, gL_sL, gL_sA, gL_sM, aI_sI, aI_sL, aI_sA, aI_sM, aL_sI, aL_sL, aL_sA, aL_sM, oi_4]; try dsimp only
      refine ⟨fun h76 => ?_, fun h76 => ?_⟩
      · have c76 : ¬ (work).toInt = 4 := fun q => h76 ((cI (rfl : (work).toInt = (work).toInt) (rfl : (4 : Int32).toInt = 4)).1.mpr q)
        refine hB _ _ _ _ _ (fun m77 hm77 => ?_)
        dsimp only [ugo, uwp, ust, uct, rfd, Breckon, Breckon_280, Nat.beq, lv_args, rlk, rs1, rs2, rdl, rky, rcd, rno, rsw, Value.category, List.filter, List.take, List.drop, List.reverse, List.reverseAux, List.cons_append, List.nil_append, Option.toList, Int.toNat, Int.reduceToNat, if_pos, if_neg, reduceIte, ↓reduceIte, Nat.reduceAdd, Nat.reduceEqDiff, Nat.reduceBEq, beq_self_eq_true, Bool.not_true, Bool.not_false, Bool.and_true, Bool.and_false, Bool.true_and, Bool.false_and, gI_sI, gI_sL, gI_sA, gI_sM, gL_sI, gL_sL, gL_sA, gL_sM, aI_sI, aI_sL, aI_sA, aI_sM, aL_sI, aL_sL, aL_sA, aL_sM]; try dsimp only
        refine hB _ _ _ _ _ (fun m78 hm78 => ?_)
        dsimp only [ugo, uwp, ust, uct, rfd, Breckon, Breckon_291, Nat.beq, lv_args, rlk, rs1, rs2, rdl, rky, rcd, rno, rsw, Value.category, List.filter, List.take, List.drop, List.reverse, List.reverseAux, List.cons_append, List.nil_append, Option.toList, Int.toNat, Int.reduceToNat, if_pos, if_neg, reduceIte, ↓reduceIte, Nat.reduceAdd, Nat.reduceEqDiff, Nat.reduceBEq, beq_self_eq_true, Bool.not_true, Bool.not_false, Bool.and_true, Bool.and_false, Bool.true_and, Bool.false_and, gI_sI, gI_sL, gI_sA, gI_sM, gL_sI, gL_sL, gL_sA, gL_sM, aI_sI, aI_sL, aI_sA, aI_sM, aL_sI, aL_sL, aL_sA, aL_sM]; try dsimp only
        unfold Qv_reckon
        try dsimp only
        refine ⟨rfl, _, rfl, fun sg hm hr h0 => ?_⟩
        obtain rfl : sg = 33 := (sg_n hm (by decide : ((306 : Int), (33 : Int)) ∈ sgT)).mp (by omega)
        unfold wkT
        rw [if_neg (by decide), if_neg (by decide), if_neg (by decide), if_neg (by decide), if_neg (by decide), if_neg (by decide), if_neg (by decide), if_neg (by decide), if_pos (by decide)]
        unfold shT
        first | (rw [if_pos (by omega)]; rfl) | (rw [if_neg (by omega)]; rfl)
      · have c76 : (work).toInt = 4 := (cI (rfl : (work).toInt = (work).toInt) (rfl : (4 : Int32).toInt = 4)).1.mp h76
        refine hB _ _ _ _ _ (fun m79 hm79 => ?_)
        dsimp only [ugo, uwp, ust, uct, rfd, Breckon, Breckon_268, Nat.beq, lv_args, rlk, rs1, rs2, rdl, rky, rcd, rno, rsw, Value.category, List.filter, List.take, List.drop, List.reverse, List.reverseAux, List.cons_append, List.nil_append, Option.toList, Int.toNat, Int.reduceToNat, if_pos, if_neg, reduceIte, ↓reduceIte, Nat.reduceAdd, Nat.reduceEqDiff, Nat.reduceBEq, beq_self_eq_true, Bool.not_true, Bool.not_false, Bool.and_true, Bool.and_false, Bool.true_and, Bool.false_and, gI_sI, gI_sL, gI_sA, gI_sM, gL_sI, gL_sL, gL_sA, gL_sM, aI_sI, aI_sL, aI_sA, aI_sM, aL_sI, aL_sL, aL_sA, aL_sM]; try dsimp only
        refine hB _ _ _ _ _ (fun m80 hm80 => ?_)
        dsimp only [ugo, uwp, ust, uct, rfd, Breckon, Breckon_291, Nat.beq, lv_args, rlk, rs1, rs2, rdl, rky, rcd, rno, rsw, Value.category, List.filter, List.take, List.drop, List.reverse, List.reverseAux, List.cons_append, List.nil_append, Option.toList, Int.toNat, Int.reduceToNat, if_pos, if_neg, reduceIte, ↓reduceIte, Nat.reduceAdd, Nat.reduceEqDiff, Nat.reduceBEq, beq_self_eq_true, Bool.not_true, Bool.not_false, Bool.and_true, Bool.and_false, Bool.true_and, Bool.false_and, gI_sI, gI_sL, gI_sA, gI_sM, gL_sI, gL_sL, gL_sA, gL_sM, aI_sI, aI_sL, aI_sA, aI_sM, aL_sI, aL_sL, aL_sA, aL_sM]; try dsimp only
        unfold Qv_reckon
        try dsimp only
        refine ⟨rfl, _, rfl, fun sg hm hr h0 => ?_⟩
        obtain rfl : sg = 33 := (sg_n hm (by decide : ((306 : Int), (33 : Int)) ∈ sgT)).mp (by omega)
        unfold wkT
        rw [if_neg (by decide), if_neg (by decide), if_neg (by decide), if_neg (by decide), if_neg (by decide), if_neg (by decide), if_neg (by decide), if_neg (by decide), if_pos (by decide)]
        unfold shT
        first | (rw [if_pos (by omega)]; rfl) | (rw [if_neg (by omega)]; rfl)
    have c74 : ¬ (s).toInt = 306 := fun q => h74 ((rfl : (s).toInt = (s).toInt).trans q)
    refine hB _ _ _ _ _ (fun m81 hm81 => ?_)
    dsimp only [ugo, uwp, ust, uct, rfd, Breckon, Breckon_357, Nat.beq, lv_args, rlk, rs1, rs2, rdl, rky, rcd, rno, rsw, Value.category, List.filter, List.take, List.drop, List.reverse, List.reverseAux, List.cons_append, List.nil_append, Option.toList, Int.toNat, Int.reduceToNat, if_pos, if_neg, reduceIte, ↓reduceIte, Nat.reduceAdd, Nat.reduceEqDiff, Nat.reduceBEq, beq_self_eq_true, Bool.not_true, Bool.not_false, Bool.and_true, Bool.and_false, Bool.true_and, Bool.false_and, gI_sI, gI_sL, gI_sA, gI_sM, gL_sI, gL_sL, gL_sA, gL_sM, aI_sI, aI_sL, aI_sA, aI_sM, aL_sI, aL_sL, aL_sA, aL_sM]; try dsimp only
    refine ⟨fun h82 => ?_, fun h82 => ?_⟩
    · have c82 : (a).toInt < (b).toInt := (cL (a := b) (b := a)).2.1.mp h82
      refine hB _ _ _ _ _ (fun m83 hm83 => ?_)
      dsimp only [ugo, uwp, ust, uct, rfd, Breckon, Breckon_368, Nat.beq, lv_args, rlk, rs1, rs2, rdl, rky, rcd, rno, rsw, Value.category, List.filter, List.take, List.drop, List.reverse, List.reverseAux, List.cons_append, List.nil_append, Option.toList, Int.toNat, Int.reduceToNat, if_pos, if_neg, reduceIte, ↓reduceIte, Nat.reduceAdd, Nat.reduceEqDiff, Nat.reduceBEq, beq_self_eq_true, Bool.not_true, Bool.not_false, Bool.and_true, Bool.and_false, Bool.true_and, Bool.false_and, gI_sI, gI_sL, gI_sA, gI_sM, gL_sI, gL_sL, gL_sA, gL_sM, aI_sI, aI_sL, aI_sA, aI_sM, aL_sI, aL_sL, aL_sA, aL_sM]; try dsimp only
      refine hB _ _ _ _ _ (fun m84 hm84 => ?_)
      dsimp only [ugo, uwp, ust, uct, rfd, Breckon, Breckon_369, Nat.beq, lv_args, rlk, rs1, rs2, rdl, rky, rcd, rno, rsw, Value.category, List.filter, List.take, List.drop, List.reverse, List.reverseAux, List.cons_append, List.nil_append, Option.toList, Int.toNat, Int.reduceToNat, if_pos, if_neg, reduceIte, ↓reduceIte, Nat.reduceAdd, Nat.reduceEqDiff, Nat.reduceBEq, beq_self_eq_true, Bool.not_true, Bool.not_false, Bool.and_true, Bool.and_false, Bool.true_and, Bool.false_and, gI_sI, gI_sL, gI_sA, gI_sM, gL_sI, gL_sL, gL_sA, gL_sM, aI_sI, aI_sL, aI_sA, aI_sM, aL_sI, aL_sL, aL_sA, aL_sM]; try dsimp only
      unfold Qv_reckon
      try dsimp only
      refine ⟨rfl, _, rfl, fun sg hm hr h0 => ?_⟩
      obtain rfl : sg = 30 := by have q := sgr _ hm hr.1 hr.2; dsimp only at q; omega
      unfold wkT
      rw [if_neg (by decide), if_neg (by decide), if_neg (by decide), if_neg (by decide), if_neg (by decide), if_neg (by decide), if_neg (by decide), if_neg (by decide), if_neg (by decide)]
      exact (if_neg (show ¬ cmT 30 a b from (show ¬ (b.toInt ≤ a.toInt) from by first | assumption | omega | exact fun q => q (by assumption)))).symm
    · have c82 : (b).toInt ≤ (a).toInt := (cL (a := b) (b := a)).2.2.2.2.mp (by first | exact h82 | exact Int32.not_lt.mp h82 | exact Int32.not_le.mp h82)
      refine hB _ _ _ _ _ (fun m85 hm85 => ?_)
      dsimp only [ugo, uwp, ust, uct, rfd, Breckon, Breckon_364, Nat.beq, lv_args, rlk, rs1, rs2, rdl, rky, rcd, rno, rsw, Value.category, List.filter, List.take, List.drop, List.reverse, List.reverseAux, List.cons_append, List.nil_append, Option.toList, Int.toNat, Int.reduceToNat, if_pos, if_neg, reduceIte, ↓reduceIte, Nat.reduceAdd, Nat.reduceEqDiff, Nat.reduceBEq, beq_self_eq_true, Bool.not_true, Bool.not_false, Bool.and_true, Bool.and_false, Bool.true_and, Bool.false_and, gI_sI, gI_sL, gI_sA, gI_sM, gL_sI, gL_sL, gL_sA, gL_sM, aI_sI, aI_sL, aI_sA, aI_sM, aL_sI, aL_sL, aL_sA, aL_sM]; try dsimp only
      refine hB _ _ _ _ _ (fun m86 hm86 => ?_)
      dsimp only [ugo, uwp, ust, uct, rfd, Breckon, Breckon_369, Nat.beq, lv_args, rlk, rs1, rs2, rdl, rky, rcd, rno, rsw, Value.category, List.filter, List.take, List.drop, List.reverse, List.reverseAux, List.cons_append, List.nil_append, Option.toList, Int.toNat, Int.reduceToNat, if_pos, if_neg, reduceIte, ↓reduceIte, Nat.reduceAdd, Nat.reduceEqDiff, Nat.reduceBEq, beq_self_eq_true, Bool.not_true, Bool.not_false, Bool.and_true, Bool.and_false, Bool.true_and, Bool.false_and, gI_sI, gI_sL, gI_sA, gI_sM, gL_sI, gL_sL, gL_sA, gL_sM, aI_sI, aI_sL, aI_sA, aI_sM, aL_sI, aL_sL, aL_sA, aL_sM]; try dsimp only
      unfold Qv_reckon
      try dsimp only
      refine ⟨rfl, _, rfl, fun sg hm hr h0 => ?_⟩
      obtain rfl : sg = 30 := by have q := sgr _ hm hr.1 hr.2; dsimp only at q; omega
      unfold wkT
      rw [if_neg (by decide), if_neg (by decide), if_neg (by decide), if_neg (by decide), if_neg (by decide), if_neg (by decide), if_neg (by decide), if_neg (by decide), if_neg (by decide)]
      exact (if_pos (show cmT 30 a b from (show b.toInt ≤ a.toInt from by first | assumption | omega))).symm
  next => exact hP.elim
theorem w_reckon : UMet 97 (fun _ _ => True) Qw_reckon := fun A1 σ _ w τ h hP => v_reckon A1 σ hP w τ h
