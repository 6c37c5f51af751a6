/-! judge's own run -/
theorem F8.i120 {σ : RS} {v : Int32} : F8 σ (sI σ 120 v) := F8.fn (Fn.rf.i rfl)
def Pv_judge : UP1 := fun A1 σ => match A1 with
  | [] => True
  | _ => False
def Qv_judge : UQ1 := fun A1 σ w τ => match A1 with
  | [] => ∃ X, JdR σ X ∧ F8 X τ ∧ w = some (.int (gI X 66))
  | _ => False
def Qw_judge : UQ1 := fun A1 σ w τ => Pv_judge A1 σ → Qv_judge A1 σ w τ
set_option maxRecDepth 100000 in
set_option maxHeartbeats 4000000 in
theorem v_judge : UMet 126 (Pv_judge) (Qv_judge) := by
  refine UMet.by Bjudge [(125, (fun _ _ => True), Qw_isGood)] rfl (ucc w_isGood uc0) ?_
  intro A1 σ hP K hB hW
  unfold Pv_judge at hP
  split at hP
  next =>
    intro n0
    refine hB _ _ _ _ _ (fun m1 hm1 => ?_)
    dsimp only [ugo, uwp, ust, uct, rfd, Bjudge, Bjudge_0, Nat.beq, lv_args, rlk, rs1, rs2, rdl, rky, rcd, rno, rsw, Value.category, List.filter, List.take, List.drop, List.reverse, List.reverseAux, List.cons_append, List.nil_append, Option.toList, Int.toNat, Int.reduceToNat, if_pos, if_neg, reduceIte, ↓reduceIte, Nat.reduceAdd, Nat.reduceEqDiff, Nat.reduceBEq, beq_self_eq_true, Bool.not_true, Bool.not_false, Bool.and_true, Bool.and_false, Bool.true_and, Bool.false_and, gI_sI, gI_sL, gI_sA, gI_sM, gL_sI, gL_sL, gL_sA, gL_sM, aI_sI, aI_sL, aI_sA, aI_sM, aL_sI, aL_sL, aL_sA, aL_sM]; try dsimp only
    refine ⟨trivial, fun w2 τ2 hq2 => ?_⟩
    obtain ⟨hjd2, b2, rfl, hb2⟩ := hq2 trivial
    dsimp only [Option.toList, List.cons_append, List.nil_append, Nat.beq, gI_sI, gI_sL, gI_sA, gI_sM, gL_sI, gL_sL, gL_sA, gL_sM, aI_sI, aI_sL, aI_sA, aI_sM, aL_sI, aL_sL, aL_sA, aL_sM]
    refine ⟨fun h3 => ?_, fun h3 => ?_⟩
    · have c3 : ¬ (gI τ2 66 = 0) := fun q => (hb2).mpr q h3
      refine hB _ _ _ _ _ (fun m4 hm4 => ?_)
      dsimp only [ugo, uwp, ust, uct, rfd, Bjudge, Bjudge_15, Nat.beq, lv_args, rlk, rs1, rs2, rdl, rky, rcd, rno, rsw, Value.category, List.filter, List.take, List.drop, List.reverse, List.reverseAux, List.cons_append, List.nil_append, Option.toList, Int.toNat, Int.reduceToNat, if_pos, if_neg, reduceIte, ↓reduceIte, Nat.reduceAdd, Nat.reduceEqDiff, Nat.reduceBEq, beq_self_eq_true, Bool.not_true, Bool.not_false, Bool.and_true, Bool.and_false, Bool.true_and, Bool.false_and, gI_sI, gI_sL, gI_sA, gI_sM, gL_sI, gL_sL, gL_sA, gL_sM, aI_sI, aI_sL, aI_sA, aI_sM, aL_sI, aL_sL, aL_sA, aL_sM]; try dsimp only
      refine hB _ _ _ _ _ (fun m5 hm5 => ?_)
      dsimp only [ugo, uwp, ust, uct, rfd, Bjudge, Bjudge_19, Nat.beq, lv_args, rlk, rs1, rs2, rdl, rky, rcd, rno, rsw, Value.category, List.filter, List.take, List.drop, List.reverse, List.reverseAux, List.cons_append, List.nil_append, Option.toList, Int.toNat, Int.reduceToNat, if_pos, if_neg, reduceIte, ↓reduceIte, Nat.reduceAdd, Nat.reduceEqDiff, Nat.reduceBEq, beq_self_eq_true, Bool.not_true, Bool.not_false, Bool.and_true, Bool.and_false, Bool.true_and, Bool.false_and, gI_sI, gI_sL, gI_sA, gI_sM, gL_sI, gL_sL, gL_sA, gL_sM, aI_sI, aI_sL, aI_sA, aI_sM, aL_sI, aL_sL, aL_sA, aL_sM]; try dsimp only
      unfold Qv_judge
      try dsimp only
      exact ⟨_, hjd2, F8.i120, rfl⟩
    · have c3 : gI τ2 66 = 0 := (hb2).mp h3
      refine hB _ _ _ _ _ (fun m6 hm6 => ?_)
      dsimp only [ugo, uwp, ust, uct, rfd, Bjudge, Bjudge_10, Nat.beq, lv_args, rlk, rs1, rs2, rdl, rky, rcd, rno, rsw, Value.category, List.filter, List.take, List.drop, List.reverse, List.reverseAux, List.cons_append, List.nil_append, Option.toList, Int.toNat, Int.reduceToNat, if_pos, if_neg, reduceIte, ↓reduceIte, Nat.reduceAdd, Nat.reduceEqDiff, Nat.reduceBEq, beq_self_eq_true, Bool.not_true, Bool.not_false, Bool.and_true, Bool.and_false, Bool.true_and, Bool.false_and, gI_sI, gI_sL, gI_sA, gI_sM, gL_sI, gL_sL, gL_sA, gL_sM, aI_sI, aI_sL, aI_sA, aI_sM, aL_sI, aL_sL, aL_sA, aL_sM, oi_m2]; try dsimp only
      refine hB _ _ _ _ _ (fun m7 hm7 => ?_)
      dsimp only [ugo, uwp, ust, uct, rfd, Bjudge, Bjudge_19, Nat.beq, lv_args, rlk, rs1, rs2, rdl, rky, rcd, rno, rsw, Value.category, List.filter, List.take, List.drop, List.reverse, List.reverseAux, List.cons_append, List.nil_append, Option.toList, Int.toNat, Int.reduceToNat, if_pos, if_neg, reduceIte, ↓reduceIte, Nat.reduceAdd, Nat.reduceEqDiff, Nat.reduceBEq, beq_self_eq_true, Bool.not_true, Bool.not_false, Bool.and_true, Bool.and_false, Bool.true_and, Bool.false_and, gI_sI, gI_sL, gI_sA, gI_sM, gL_sI, gL_sL, gL_sA, gL_sM, aI_sI, aI_sL, aI_sA, aI_sM, aL_sI, aL_sL, aL_sA, aL_sM]; try dsimp only
      unfold Qv_judge
      try dsimp only
      exact ⟨_, hjd2, F8.i120, rfl⟩
  next => exact hP.elim
theorem w_judge : UMet 126 (fun _ _ => True) Qw_judge := fun A1 σ _ w τ h hP => v_judge A1 σ hP w τ h
theorem RfU.judge {N : Int → Int} {σ τ : RS} {s : SpC} {z : ZS} {w : Option Value} (h : RfU N σ s z) (h91 : gI σ 91 = 0) (e : EvM 126 [] σ w τ) : gI τ 68 = 1 ∧ JuR N τ s z := by
  obtain ⟨X, j, f, _⟩ := (w_judge [] σ trivial w τ e) trivial
  have q := h.jd h91 j
  exact ⟨f.2.trans q.1, q.2.f8 f⟩
theorem RfU.type {N : Int → Int} {σ τ : RS} {s : SpC} {z : ZS} {w : Option Value} {i k : Int32} {L : List Nat} (h : RfU N σ s z) (h91 : gI σ 91 = 0) (hL : L.length = (zMs z.1).length) (P : PrD N z L 0 (0, 0, []) (psM z)) (e : EvM 135 [.int i, .int k] σ w τ) : (gI τ 68 = 1 ∧ JuR N τ s z) ∧ ∃ r : Int32, w = some (.int r) ∧ ((r = -2 ∧ ∀ T, ¬ OkP N s z L T) ∨ ∃ T, OkP N s z L T ∧ r.toInt = tyW T z.2.1 i.toInt k.toInt) := by
  obtain ⟨j, r, rfl, q⟩ := (w_type [.int i, .int k] σ trivial w τ e) trivial
  have J := h.jd h91 j
  refine ⟨J, r, rfl, ?_⟩
  rcases J.2.of hL P with ⟨a, b⟩ | ⟨a, T, b, c⟩
  · rcases q with ⟨_, q⟩ | ⟨q, _⟩
    · exact Or.inl ⟨q, b⟩
    · exact absurd q a
  · rcases q with ⟨q, _⟩ | ⟨_, x, q1, q2⟩
    · exact absurd a q
    · exact Or.inr ⟨T, b, ty_an c q1 q2⟩
theorem RfU.constant {N : Int → Int} {σ τ : RS} {s : SpC} {z : ZS} {w : Option Value} {i k : Int32} {L : List Nat} (h : RfU N σ s z) (h91 : gI σ 91 = 0) (hL : L.length = (zMs z.1).length) (P : PrD N z L 0 (0, 0, []) (psM z)) (e : EvM 136 [.int i, .int k] σ w τ) : (gI τ 68 = 1 ∧ JuR N τ s z) ∧ ∃ r : Int64, w = some (.long r) ∧ ((r = NTW ∧ ∀ T, ¬ OkP N s z L T) ∨ ∃ T, OkP N s z L T ∧ r = coA T z.2.1 i.toInt k.toInt) := by
  obtain ⟨j, r, rfl, q⟩ := (w_constant [.int i, .int k] σ trivial w τ e) trivial
  have J := h.jd h91 j
  refine ⟨J, r, rfl, ?_⟩
  rcases J.2.of hL P with ⟨a, b⟩ | ⟨a, T, b, c⟩
  · rcases q with ⟨_, q⟩ | ⟨q, _⟩
    · exact Or.inl ⟨q, b⟩
    · exact absurd q a
  · rcases q with ⟨q, _⟩ | ⟨_, x, q1, q2⟩
    · exact absurd a q
    · exact Or.inr ⟨T, b, co_an c q1 q2⟩
