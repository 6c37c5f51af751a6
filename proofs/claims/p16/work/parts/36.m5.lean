theorem XI.sm {σ0 σ σ' : RS} {tp : List Nat} {k j : Int} (h : XI σ0 σ tp k j) (hF : Fx σ σ' := by repeat (first | exact Fx.rf | refine Fx.a ?_ rfl | refine Fx.i ?_ rfl)) (e18 : gI σ' 18 = gI σ 18 := by rfl) (e19 : aI σ' 19 = aI σ 19 := by rfl) (e20 : aI σ' 20 = aI σ 20 := by rfl) (e21 : aI σ' 21 = aI σ 21 := by rfl) (e22 : aI σ' 22 = aI σ 22 := by rfl) (e23 : aI σ' 23 = aI σ 23 := by rfl) (e24 : aI σ' 24 = aI σ 24 := by rfl) (e29 : gI σ' 29 = gI σ 29 := by rfl) (e25 : aI σ' 25 = aI σ 25 := by rfl) (e26 : aI σ' 26 = aI σ 26 := by rfl) (e27 : aI σ' 27 = aI σ 27 := by rfl) (e28 : aI σ' 28 = aI σ 28 := by rfl) (e31 : gI σ' 31 = gI σ 31 := by rfl) (e30 : aI σ' 30 = aI σ 30 := by rfl) (e14 : gI σ' 14 = gI σ 14 := by rfl) (e17 : gI σ' 17 = gI σ 17 := by rfl) (e32 : gI σ' 32 = gI σ 32 := by rfl) (e33 : gI σ' 33 = gI σ 33 := by rfl) : XI σ0 σ' tp k j := by
  obtain ⟨L, d, hF0, hC, hO, hV, hp, hj, hk, hd, hl, hr⟩ := h
  exact ⟨L, d, hF0.tr hF, hC.same e18 e19 e20 e21 e22 e23 e24, hO.same e29 e25 e26 e27 e28, hV.same e31 e30, by rw [e14]; exact hp, by rw [e14, e29, e31]; exact hj, by rw [e14, e29, e18]; exact hk, by rw [e17]; exact hd, by rw [e32]; exact hl, by rw [e33, e18]; exact hr⟩
theorem XI.wn {σ0 σ : RS} {tp : List Nat} {k j : Int} (h : XI σ0 σ tp k j) (hp : 0 < gI σ 29) (hs : aI σ 25 (gI σ 29 - 1).toNatClampNeg = 4) : 0 ≤ aI σ 28 (gI σ 29 - 1).toNatClampNeg ∧ aI σ 28 (gI σ 29 - 1).toNatClampNeg ≤ gI σ 31 := by
  obtain ⟨L, d, hF, hC, hO, hV, -⟩ := h
  obtain ⟨L', d', hL, hd', hO', hox⟩ := hO.pop (σ' := sI σ 29 (gI σ 29 - 1)) hp rfl rfl rfl rfl rfl
  have hs : aI σ 25 (nT (gI σ 29 - 1)) = 4 := hs
  rw [hs] at hL
  have hL2 : L = List.replicate (nT (aI σ 28 (nT (gI σ 29 - 1)))) 0 ++ L' := hL
  have h1 := t_nT hV.1
  rw [hV.2.1, wl_app, hL2, wl_app, wl_rep] at h1
  have h8 := t_nT hox.2.2.2.2.1
  exact ⟨hox.2.2.2.2.1, t_le (by show (aI σ 28 (nT (gI σ 29 - 1))).toInt ≤ _; omega)⟩
def XR (σ τ : RS) : Prop := (∀ σ0, XI σ0 σ [] 0 0 → (gI τ 34 = 1 ∧ XI σ0 τ [] 0 0 ∧ (gI τ 35 = 0 ∨ gI τ 35 = 1)) ∨ (gI τ 34 = 0 ∧ XI σ0 τ [0] 0 0)) ∧ gI σ 14 < gI τ 14
def P_closeCall : RP := fun As σ => match As with
  | [] => (∃ σ0, XI σ0 σ [] 0 0) ∧ 0 < (gI σ 29) ∧ aI σ 25 (gI σ 29 - 1).toNatClampNeg = 4
  | _ => False
def Q_closeCall : RQ := fun As σ w τ => match As with
  | [] => ∃ r : Int32, w = some (.int r) ∧ ((r = 0 ∧ Fx σ τ) ∨ (r = 1 ∧ (∀ σ0, XI σ0 σ [] 0 0 → XI σ0 τ [0] 0 0) ∧ (gI τ 34) = 0 ∧ (gI σ 14) < (gI τ 14)))
  | _ => False
set_option maxRecDepth 100000 in
set_option maxHeartbeats 4000000 in
theorem m_closeCall (l : Launch) : RMet l 3 31 P_closeCall Q_closeCall := by
  refine RMet.by BcloseCall [(21, P_emitExp, Q_emitExp), (17, P_take, Q_take), (26, P_whole, Q_whole)] rocloseCall okBcloseCall (ctc (m_emitExp l) (by decide) (ctc (m_take l) (by decide) (ctc (m_whole l) (by decide) ct0))) ?_ ?_
  · intro As σ hP
    unfold P_closeCall at hP
    split at hP
    next => exact Nat.le_of_ble_eq_true rfl
    next => exact hP.elim
  · intro As σ hP G hB hW
    unfold P_closeCall at hP
    split at hP
    next => 
      unfold Q_closeCall at hB
      dsimp only at hB
      obtain ⟨⟨σa, hXa⟩, hop, hs⟩ := hP
      have nn := hXa.nums
      have hox := hXa.top hop
      have hwn := hXa.wn hop hs
      unfold ox at hox
      apply hB
      dsimp only [rgo, rfd, BcloseCall, Nat.beq, rwp, rst, lv_args, rlk, rs1, rs2, rdl, rky, rct, rcs, rcd, rno, rsw, Value.category, List.filter, List.take, List.drop, List.reverse, List.reverseAux, List.cons_append, List.nil_append, Option.toList, Int.toNat, Int.reduceToNat, if_pos, if_neg, reduceIte, ↓reduceIte, Nat.reduceAdd, Nat.reduceEqDiff, Nat.reduceBEq, beq_self_eq_true, Bool.not_true, Bool.not_false, Bool.and_true, Bool.and_false, Bool.true_and, Bool.false_and, gI_sI, gI_sL, gI_sA, gI_sM, gL_sI, gL_sL, gL_sA, gL_sM, aI_sI, aI_sL, aI_sA, aI_sM, aL_sI, aL_sL, aL_sA, aL_sM, gI_em, gI_emx, gI_pu, gI_wh, BcloseCall_0, BcloseCall_32, BcloseCall_34, oi_0, oi_1, oi_18, P_emitExp, P_take, P_whole]; try dsimp only
      refine ⟨rfl, rfl, rfl, rfl, rfl, (in_27 (by lia) (by lia)), rfl, rfl, (by decide), (⟨by lia, by lia⟩), fun w1 τ1 hq1 => ?_⟩
      obtain ⟨r1, rfl, hq1⟩ := hq1
      rcases hq1 with ⟨rfl, hp1, rfl⟩ | ⟨rfl, fa1, fb1, rfl⟩
      · dsimp only [Option.toList, List.cons_append, List.nil_append, Nat.beq, gI_sI, gI_sL, gI_sA, gI_sM, gL_sI, gL_sL, gL_sA, gL_sM, aI_sI, aI_sL, aI_sA, aI_sM, aL_sI, aL_sL, aL_sA, aL_sM, gI_em, gI_emx, gI_pu, gI_wh]
        refine ⟨fun h2 => ?_, fun h2 => absurd h2 (by decide)⟩
        clear h2
        apply hB
        dsimp only [rgo, rfd, BcloseCall, Nat.beq, rwp, rst, lv_args, rlk, rs1, rs2, rdl, rky, rct, rcs, rcd, rno, rsw, Value.category, List.filter, List.take, List.drop, List.reverse, List.reverseAux, List.cons_append, List.nil_append, Option.toList, Int.toNat, Int.reduceToNat, if_pos, if_neg, reduceIte, ↓reduceIte, Nat.reduceAdd, Nat.reduceEqDiff, Nat.reduceBEq, beq_self_eq_true, Bool.not_true, Bool.not_false, Bool.and_true, Bool.and_false, Bool.true_and, Bool.false_and, gI_sI, gI_sL, gI_sA, gI_sM, gL_sI, gL_sL, gL_sA, gL_sM, aI_sI, aI_sL, aI_sA, aI_sM, aL_sI, aL_sL, aL_sA, aL_sM, gI_em, gI_emx, gI_pu, gI_wh, BcloseCall_0, BcloseCall_32, BcloseCall_34, oi_0, oi_1, oi_18, P_emitExp, P_take, P_whole]; try dsimp only
        refine ⟨rfl, rfl, rfl, rfl, rfl, rfl, (in_28 (by lia) (by lia)), rfl, rfl, rfl, rfl, (in_28 (by lia) (by lia)), rfl, (by decide), (⟨by lia, by lia⟩), fun w3 τ3 hq3 => ?_⟩
        obtain ⟨rfl, rfl⟩ := hq3
        dsimp only [Option.toList, List.cons_append, List.nil_append, Nat.beq, gI_sI, gI_sL, gI_sA, gI_sM, gL_sI, gL_sL, gL_sA, gL_sM, aI_sI, aI_sL, aI_sA, aI_sM, aL_sI, aL_sL, aL_sA, aL_sM, gI_em, gI_emx, gI_pu, gI_wh]
        refine ⟨rfl, rfl, rfl, (by decide), (⟨by lia, by lia⟩), fun w4 τ4 hq4 => ?_⟩
        obtain ⟨rfl, rfl⟩ := hq4
        dsimp only [Option.toList, List.cons_append, List.nil_append, Nat.beq, gI_sI, gI_sL, gI_sA, gI_sM, gL_sI, gL_sL, gL_sA, gL_sM, aI_sI, aI_sL, aI_sA, aI_sM, aL_sI, aL_sL, aL_sA, aL_sM, gI_em, gI_emx, gI_pu, gI_wh]
        refine ⟨rfl, Or.inl rfl, Or.inr rfl, ?_⟩
        exact ⟨_, rfl, Or.inr ⟨rfl, fun σ0 hσ0 => XI.call hσ0 (aI σ 28 (gI σ 29 - 1).toNatClampNeg) (aI σ 27 (gI σ 29 - 1).toNatClampNeg) (gI σ 14) hop ‹_› hs rfl ⟨by decide, by decide, by lia, by lia, by lia, by lia, by lia, by lia⟩ ⟨by decide, by decide⟩, rfl, by show gI σ 14 < gI σ 14 + 1; lia⟩⟩
      · dsimp only [Option.toList, List.cons_append, List.nil_append, Nat.beq, gI_sI, gI_sL, gI_sA, gI_sM, gL_sI, gL_sL, gL_sA, gL_sM, aI_sI, aI_sL, aI_sA, aI_sM, aL_sI, aL_sL, aL_sA, aL_sM, gI_em, gI_emx, gI_pu, gI_wh]
        refine ⟨fun h5 => absurd h5 (by decide), fun h5 => ?_⟩
        clear h5
        apply hB
        dsimp only [rgo, rfd, BcloseCall, Nat.beq, rwp, rst, lv_args, rlk, rs1, rs2, rdl, rky, rct, rcs, rcd, rno, rsw, Value.category, List.filter, List.take, List.drop, List.reverse, List.reverseAux, List.cons_append, List.nil_append, Option.toList, Int.toNat, Int.reduceToNat, if_pos, if_neg, reduceIte, ↓reduceIte, Nat.reduceAdd, Nat.reduceEqDiff, Nat.reduceBEq, beq_self_eq_true, Bool.not_true, Bool.not_false, Bool.and_true, Bool.and_false, Bool.true_and, Bool.false_and, gI_sI, gI_sL, gI_sA, gI_sM, gL_sI, gL_sL, gL_sA, gL_sM, aI_sI, aI_sL, aI_sA, aI_sM, aL_sI, aL_sL, aL_sA, aL_sM, gI_em, gI_emx, gI_pu, gI_wh, BcloseCall_0, BcloseCall_32, BcloseCall_34, oi_0, oi_1, oi_18, P_emitExp, P_take, P_whole]; try dsimp only
        refine ⟨Or.inl rfl, ?_⟩
        exact ⟨_, rfl, Or.inl ⟨rfl, by repeat (first | exact Fx.rf | refine Fx.a ?_ rfl | refine Fx.i ?_ rfl)⟩⟩
    next => exact hP.elim
