theorem XI.sm {σ0 σ σ' : RS} {tp : List Nat} {k j : Int} (h : XI σ0 σ tp k j) (hF : Fx σ σ' := by repeat (first | exact Fx.rf | refine Fx.a ?_ rfl | refine Fx.i ?_ rfl)) (e18 : gI σ' 18 = gI σ 18 := by rfl) (e19 : aI σ' 19 = aI σ 19 := by rfl) (e20 : aI σ' 20 = aI σ 20 := by rfl) (e21 : aI σ' 21 = aI σ 21 := by rfl) (e22 : aI σ' 22 = aI σ 22 := by rfl) (e23 : aI σ' 23 = aI σ 23 := by rfl) (e24 : aI σ' 24 = aI σ 24 := by rfl) (e29 : gI σ' 29 = gI σ 29 := by rfl) (e25 : aI σ' 25 = aI σ 25 := by rfl) (e26 : aI σ' 26 = aI σ 26 := by rfl) (e27 : aI σ' 27 = aI σ 27 := by rfl) (e28 : aI σ' 28 = aI σ 28 := by rfl) (e31 : gI σ' 31 = gI σ 31 := by rfl) (e30 : aI σ' 30 = aI σ 30 := by rfl) (e14 : gI σ' 14 = gI σ 14 := by rfl) (e17 : gI σ' 17 = gI σ 17 := by rfl) (e32 : gI σ' 32 = gI σ 32 := by rfl) (e33 : gI σ' 33 = gI σ 33 := by rfl) : XI σ0 σ' tp k j := by
  obtain ⟨L, d, hF0, hC, hO, hV, hp, hj, hk, hd, hl, hr⟩ := h
  exact ⟨L, d, hF0.tr hF, hC.same e18 e19 e20 e21 e22 e23 e24, hO.same e29 e25 e26 e27 e28, hV.same e31 e30, by rw [e14]; exact hp, by rw [e14, e29, e31]; exact hj, by rw [e14, e29, e18]; exact hk, by rw [e17]; exact hd, by unfold AA; rw [e18, e19, e22, e29, e25, e27]; exact hl, by rw [e33, e18]; exact hr⟩
theorem XI.wz {σ0 σ : RS} {tp : List Nat} {k j : Int} (h : XI σ0 σ tp k j) : ∀ t, 0 ≤ aI σ 6 t := by
  obtain ⟨L, d, hF0, hC, hO, hV, hp, hj, hk, hd, hl, hr⟩ := h
  rw [hF0.2.2.1 6 rfl]
  exact hl.2
theorem XI.wn {σ0 σ : RS} {tp : List Nat} {k j : Int} (h : XI σ0 σ tp k j) (hp : 0 < gI σ 29) (hs : aI σ 25 (gI σ 29 - 1).toNatClampNeg = 4) : 0 ≤ aI σ 28 (gI σ 29 - 1).toNatClampNeg ∧ aI σ 28 (gI σ 29 - 1).toNatClampNeg ≤ gI σ 31 := by
  obtain ⟨L, d, hF, hC, hO, hV, -⟩ := h
  obtain ⟨L', d', hL, hd', hO', hox⟩ := hO.pop (σ' := sI σ 29 (gI σ 29 - 1)) hp rfl rfl rfl rfl rfl
  have hs : aI σ 25 (nT (gI σ 29 - 1)) = 4 := hs
  rw [hs] at hL
  have hL2 : L = List.replicate (nT (aI σ 28 (nT (gI σ 29 - 1)))) 0 ++ L' := hL
  have h1 := t_nT hV.1
  rw [hV.2.1, wl_app, hL2, wl_app, wl_rep] at h1
  have h8 := t_nT hox.1.2.2.2.2.1
  exact ⟨hox.1.2.2.2.2.1, t_le (by show (aI σ 28 (nT (gI σ 29 - 1))).toInt ≤ _; omega)⟩
theorem wn40 {W : Nat → Int32} {t v : Int32} (h0 : 0 ≤ t) (h1 : t ≤ 1000) (h : W (t + 1).toNatClampNeg = v) : W (nT t + 1) = v := by
  have e : (t + 1).toNatClampNeg = nT t + 1 := nT_add h0 (by lia)
  rw [e] at h
  exact h
theorem wnS {W : Nat → Int32} {t : Int32} (h0 : 0 ≤ t) (h1 : t ≤ 1000) (h : W (t + 1).toNatClampNeg = 61 ∨ 400 < W (t + 1).toNatClampNeg) : W (nT t + 1) = 61 ∨ 400 < W (nT t + 1) := by
  have e : (t + 1).toNatClampNeg = nT t + 1 := nT_add h0 (by lia)
  rw [e] at h
  exact h
def XC (σ0 σ : RS) : Prop := XI σ0 σ [] 0 0 ∨ (XI σ0 σ [] 0 (-1) ∧ 1 ≤ aI σ 28 (gI σ 29 - 1).toNatClampNeg)
theorem XC.x {σ0 σ : RS} (h : XC σ0 σ) : ∃ j, XI σ0 σ [] 0 j ∧ (j = 0 ∨ (j = -1 ∧ 1 ≤ aI σ 28 (gI σ 29 - 1).toNatClampNeg)) := by
  rcases h with h | ⟨h, h2⟩
  · exact ⟨0, h, Or.inl rfl⟩
  · exact ⟨-1, h, Or.inr ⟨rfl, h2⟩⟩
def XR (σ τ : RS) : Prop := (∀ σ0, XI σ0 σ [] 0 0 → (gI τ 34 = 1 ∧ XI σ0 τ [] 0 0 ∧ (gI τ 35 = 0 ∨ gI τ 35 = 1)) ∨ (gI τ 34 = 0 ∧ XI σ0 τ [0] 0 0)) ∧ gI σ 14 < gI τ 14
def P_closeCall : RP := fun As σ => match As with
  | [] => (∃ σ0, XC σ0 σ) ∧ 0 < (gI σ 29) ∧ aI σ 25 (gI σ 29 - 1).toNatClampNeg = 4
  | _ => False
def Q_closeCall : RQ := fun As σ w τ => match As with
  | [] => ∃ r : Int32, w = some (.int r) ∧ ((r = 0 ∧ Fx σ τ) ∨ (r = 1 ∧ (∀ σ0, XC σ0 σ → XI σ0 τ [0] 0 0) ∧ (gI τ 34) = 0 ∧ (gI σ 14) < (gI τ 14)))
  | _ => False
set_option maxRecDepth 100000 in
set_option maxHeartbeats 4000000 in
theorem b_closeCall : Bod BcloseCall [(21, P_emitExp, Q_emitExp), (17, P_take, Q_take), (26, P_whole, Q_whole)] P_closeCall Q_closeCall := by
  · intro As σ hP G hB hW
    unfold P_closeCall at hP
    split at hP
    next => 
      unfold Q_closeCall at hB
      dsimp only at hB
      obtain ⟨⟨σa, hXc⟩, hop, hs⟩ := hP
      obtain ⟨ja, hXa, -⟩ := hXc.x
      have nn := hXa.nums
      have hox := hXa.top hop
      have hwn := hXa.wn hop hs
      unfold ox at hox
      apply hB
      dsimp only [rgo, rfd, BcloseCall, Nat.beq, rwp, rst, lv_args, rlk, rs1, rs2, rdl, rky, rct, rcs, rcd, rno, rsw, Value.category, List.filter, List.take, List.drop, List.reverse, List.reverseAux, List.cons_append, List.nil_append, Option.toList, Int.toNat, Int.reduceToNat, if_pos, if_neg, reduceIte, ↓reduceIte, Nat.reduceAdd, Nat.reduceEqDiff, Nat.reduceBEq, beq_self_eq_true, Bool.not_true, Bool.not_false, Bool.and_true, Bool.and_false, Bool.true_and, Bool.false_and, gI_sI, gI_sL, gI_sA, gI_sM, gL_sI, gL_sL, gL_sA, gL_sM, aI_sI, aI_sL, aI_sA, aI_sM, aL_sI, aL_sL, aL_sA, aL_sM, gI_em, gI_emx, gI_pu, gI_wh, BcloseCall_0, BcloseCall_32, BcloseCall_34, oi_0, oi_1, oi_18, P_emitExp, P_take, P_whole]; try dsimp only
      refine ⟨rfl, rfl, rfl, rfl, rfl, (in_27 (by lia) (by lia)), rfl, rfl, (by decide), (⟨by lia, by lia⟩), fun w1 τ1 hq1 => ?_⟩
      obtain ⟨r1, rfl, hq1⟩ := hq1
      rcases hq1 with ⟨rfl, hp1, rfl⟩ | ⟨rfl, fa1, fb1, rfl⟩
      · dsimp only [Option.toList, List.cons_append, List.nil_append, Nat.beq, gI_sI, gI_sL, gI_sA, gI_sM, gL_sI, gL_sL, gL_sA, gL_sM, aI_sI, aI_sL, aI_sA, aI_sM, aL_sI, aL_sL, aL_sA, aL_sM, gI_em, gI_emx, gI_pu, gI_wh]
        try dsimp only [Option.toList, List.cons_append, List.nil_append, Nat.beq, gI_sI, gI_sL, gI_sA, gI_sM, gL_sI, gL_sL, gL_sA, gL_sM, aI_sI, aI_sL, aI_sA, aI_sM, aL_sI, aL_sL, aL_sA, aL_sM, gI_em, gI_emx, gI_pu, gI_wh] at hp1
        refine ⟨fun h2 => ?_, fun h2 => absurd h2 (by decide)⟩
        clear h2
        apply hB
        dsimp only [rgo, rfd, BcloseCall, Nat.beq, rwp, rst, lv_args, rlk, rs1, rs2, rdl, rky, rct, rcs, rcd, rno, rsw, Value.category, List.filter, List.take, List.drop, List.reverse, List.reverseAux, List.cons_append, List.nil_append, Option.toList, Int.toNat, Int.reduceToNat, if_pos, if_neg, reduceIte, ↓reduceIte, Nat.reduceAdd, Nat.reduceEqDiff, Nat.reduceBEq, beq_self_eq_true, Bool.not_true, Bool.not_false, Bool.and_true, Bool.and_false, Bool.true_and, Bool.false_and, gI_sI, gI_sL, gI_sA, gI_sM, gL_sI, gL_sL, gL_sA, gL_sM, aI_sI, aI_sL, aI_sA, aI_sM, aL_sI, aL_sL, aL_sA, aL_sM, gI_em, gI_emx, gI_pu, gI_wh, BcloseCall_0, BcloseCall_32, BcloseCall_34, oi_0, oi_1, oi_18, P_emitExp, P_take, P_whole]; try dsimp only
        refine ⟨rfl, rfl, rfl, rfl, rfl, rfl, (in_28 (by lia) (by lia)), rfl, rfl, rfl, rfl, (in_28 (by lia) (by lia)), rfl, (by decide), (⟨by lia, by lia⟩), fun w3 τ3 hq3 => ?_⟩
        obtain ⟨rfl, rfl⟩ := hq3
        dsimp only [Option.toList, List.cons_append, List.nil_append, Nat.beq, gI_sI, gI_sL, gI_sA, gI_sM, gL_sI, gL_sL, gL_sA, gL_sM, aI_sI, aI_sL, aI_sA, aI_sM, aL_sI, aL_sL, aL_sA, aL_sM, gI_em, gI_emx, gI_pu, gI_wh]
        refine ⟨rfl, rfl, rfl, (by decide), (⟨by lia, by lia⟩), fun w4 τ4 hq4 => ?_⟩
        obtain ⟨rfl, rfl⟩ := hq4
        dsimp only [Option.toList, List.cons_append, List.nil_append, Nat.beq, gI_sI, gI_sL, gI_sA, gI_sM, gL_sI, gL_sL, gL_sA, gL_sM, aI_sI, aI_sL, aI_sA, aI_sM, aL_sI, aL_sL, aL_sA, aL_sM, gI_em, gI_emx, gI_pu, gI_wh]
        refine ⟨rfl, Or.inl rfl, Or.inr rfl, ?_⟩
        exact ⟨_, rfl, Or.inr ⟨rfl, fun σ0 hσ0 => by obtain ⟨jx, hx0, hjx⟩ := hσ0.x; exact XI.call hx0 (aI σ 28 (gI σ 29 - 1).toNatClampNeg) (aI σ 27 (gI σ 29 - 1).toNatClampNeg) (gI σ 14) hop ‹_› hs rfl ⟨by decide, by decide, by lia, by lia, by lia, by lia, True.intro, True.intro⟩ hjx (by decide), rfl, by show gI σ 14 < gI σ 14 + 1; lia⟩⟩
      · dsimp only [Option.toList, List.cons_append, List.nil_append, Nat.beq, gI_sI, gI_sL, gI_sA, gI_sM, gL_sI, gL_sL, gL_sA, gL_sM, aI_sI, aI_sL, aI_sA, aI_sM, aL_sI, aL_sL, aL_sA, aL_sM, gI_em, gI_emx, gI_pu, gI_wh]
        refine ⟨fun h5 => absurd h5 (by decide), fun h5 => ?_⟩
        clear h5
        apply hB
        dsimp only [rgo, rfd, BcloseCall, Nat.beq, rwp, rst, lv_args, rlk, rs1, rs2, rdl, rky, rct, rcs, rcd, rno, rsw, Value.category, List.filter, List.take, List.drop, List.reverse, List.reverseAux, List.cons_append, List.nil_append, Option.toList, Int.toNat, Int.reduceToNat, if_pos, if_neg, reduceIte, ↓reduceIte, Nat.reduceAdd, Nat.reduceEqDiff, Nat.reduceBEq, beq_self_eq_true, Bool.not_true, Bool.not_false, Bool.and_true, Bool.and_false, Bool.true_and, Bool.false_and, gI_sI, gI_sL, gI_sA, gI_sM, gL_sI, gL_sL, gL_sA, gL_sM, aI_sI, aI_sL, aI_sA, aI_sM, aL_sI, aL_sL, aL_sA, aL_sM, gI_em, gI_emx, gI_pu, gI_wh, BcloseCall_0, BcloseCall_32, BcloseCall_34, oi_0, oi_1, oi_18, P_emitExp, P_take, P_whole]; try dsimp only
        refine ⟨Or.inl rfl, ?_⟩
        exact ⟨_, rfl, Or.inl ⟨rfl, by repeat (first | exact Fx.rf | refine Fx.a ?_ rfl | refine Fx.i ?_ rfl)⟩⟩
    next => exact hP.elim
theorem m_closeCall (l : Launch) : RMet l 3 31 P_closeCall Q_closeCall := by
  refine RMet.by BcloseCall [(21, P_emitExp, Q_emitExp), (17, P_take, Q_take), (26, P_whole, Q_whole)] rocloseCall okBcloseCall (ctc (m_emitExp l) (by decide) (ctc (m_take l) (by decide) (ctc (m_whole l) (by decide) ct0))) ?_ b_closeCall
  · intro As σ hP
    unfold P_closeCall at hP
    split at hP
    next => exact Nat.le_of_ble_eq_true rfl
    next => exact hP.elim
set_option maxRecDepth 100000 in
theorem e_closeCall (l : Launch) : RMetE l 3 31 P_closeCall Q_closeCall := by
  refine RMetE.by BcloseCall [(21, P_emitExp, Q_emitExp), (17, P_take, Q_take), (26, P_whole, Q_whole)] rfl rfl rocloseCall okBcloseCall (ctEc (e_emitExp l) (by decide) (ctEc (e_take l) (by decide) (ctEc (e_whole l) (by decide) ctE0))) ?_ b_closeCall
  · intro As σ hP
    unfold P_closeCall at hP
    split at hP
    next => exact Nat.le_of_ble_eq_true rfl
    next => exact hP.elim
def P_named : RP := fun As σ => match As with
  | [.int begins] => (∃ σ0, XI σ0 σ [] 0 0) ∧ (gI σ 34) = 0 ∧ (begins = 0 ∨ begins = 1)
  | _ => False
def Q_named : RQ := fun As σ w τ => match As with
  | [.int begins] => ∃ r : Int32, w = some (.int r) ∧ ((r = 0 ∧ Fx σ τ) ∨ (r = 1 ∧ XR σ τ))
  | _ => False
set_option maxRecDepth 100000 in
set_option maxHeartbeats 4000000 in
theorem b_named : Bod Bnamed [(31, P_closeCall, Q_closeCall), (20, P_emit, Q_emit), (21, P_emitExp, Q_emitExp), (19, P_enter, Q_enter), (24, P_isSetAt, Q_isSetAt), (14, P_isSign, Q_isSign), (25, P_push, Q_push), (17, P_take, Q_take), (28, P_wait, Q_wait), (26, P_whole, Q_whole)] P_named Q_named := by
  · intro As σ hP G hB hW
    unfold P_named at hP
    split at hP
    next begins => 
      unfold Q_named at hB
      dsimp only at hB
      obtain ⟨⟨σa, hXa⟩, hw0, hb0⟩ := hP
      have nn := hXa.nums
      apply hB
      dsimp only [rgo, rfd, Bnamed, Nat.beq, rwp, rst, lv_args, rlk, rs1, rs2, rdl, rky, rct, rcs, rcd, rno, rsw, Value.category, List.filter, List.take, List.drop, List.reverse, List.reverseAux, List.cons_append, List.nil_append, Option.toList, Int.toNat, Int.reduceToNat, if_pos, if_neg, reduceIte, ↓reduceIte, Nat.reduceAdd, Nat.reduceEqDiff, Nat.reduceBEq, beq_self_eq_true, Bool.not_true, Bool.not_false, Bool.and_true, Bool.and_false, Bool.true_and, Bool.false_and, gI_sI, gI_sL, gI_sA, gI_sM, gL_sI, gL_sL, gL_sA, gL_sM, aI_sI, aI_sL, aI_sA, aI_sM, aL_sI, aL_sL, aL_sA, aL_sM, gI_em, gI_emx, gI_pu, gI_wh, Bnamed_0, Bnamed_12, Bnamed_14, Bnamed_18, Bnamed_29, Bnamed_46, Bnamed_53, Bnamed_55, Bnamed_61, Bnamed_74, Bnamed_88, Bnamed_97, Bnamed_104, Bnamed_111, Bnamed_113, Bnamed_130, Bnamed_136, Bnamed_141, Bnamed_151, Bnamed_161, Bnamed_184, Bnamed_186, Bnamed_213, oi_0, oi_1, oi_16, oi_2, oi_3, oi_309, oi_310, oi_4, oi_40, oi_400, oi_41, oi_5, oi_61, P_closeCall, P_emit, P_emitExp, P_enter, P_isSetAt, P_isSign, P_push, P_take, P_wait, P_whole]; try dsimp only
      refine ⟨rfl, rfl, (by decide), (⟨by lia, by lia⟩), fun w1 τ1 hq1 => ?_⟩
      obtain ⟨r1, rfl, hq1⟩ := hq1
      rcases hq1 with ⟨rfl, hp1, rfl⟩ | ⟨rfl, fa1, fb1, rfl⟩
      · dsimp only [Option.toList, List.cons_append, List.nil_append, Nat.beq, gI_sI, gI_sL, gI_sA, gI_sM, gL_sI, gL_sL, gL_sA, gL_sM, aI_sI, aI_sL, aI_sA, aI_sM, aL_sI, aL_sL, aL_sA, aL_sM, gI_em, gI_emx, gI_pu, gI_wh]
        try dsimp only [Option.toList, List.cons_append, List.nil_append, Nat.beq, gI_sI, gI_sL, gI_sA, gI_sM, gL_sI, gL_sL, gL_sA, gL_sM, aI_sI, aI_sL, aI_sA, aI_sM, aL_sI, aL_sL, aL_sA, aL_sM, gI_em, gI_emx, gI_pu, gI_wh] at hp1
        refine ⟨fun h2 => ?_, fun h2 => absurd h2 (by decide)⟩
        clear h2
        apply hB
        dsimp only [rgo, rfd, Bnamed, Nat.beq, rwp, rst, lv_args, rlk, rs1, rs2, rdl, rky, rct, rcs, rcd, rno, rsw, Value.category, List.filter, List.take, List.drop, List.reverse, List.reverseAux, List.cons_append, List.nil_append, Option.toList, Int.toNat, Int.reduceToNat, if_pos, if_neg, reduceIte, ↓reduceIte, Nat.reduceAdd, Nat.reduceEqDiff, Nat.reduceBEq, beq_self_eq_true, Bool.not_true, Bool.not_false, Bool.and_true, Bool.and_false, Bool.true_and, Bool.false_and, gI_sI, gI_sL, gI_sA, gI_sM, gL_sI, gL_sL, gL_sA, gL_sM, aI_sI, aI_sL, aI_sA, aI_sM, aL_sI, aL_sL, aL_sA, aL_sM, gI_em, gI_emx, gI_pu, gI_wh, Bnamed_0, Bnamed_12, Bnamed_14, Bnamed_18, Bnamed_29, Bnamed_46, Bnamed_53, Bnamed_55, Bnamed_61, Bnamed_74, Bnamed_88, Bnamed_97, Bnamed_104, Bnamed_111, Bnamed_113, Bnamed_130, Bnamed_136, Bnamed_141, Bnamed_151, Bnamed_161, Bnamed_184, Bnamed_186, Bnamed_213, oi_0, oi_1, oi_16, oi_2, oi_3, oi_309, oi_310, oi_4, oi_40, oi_400, oi_41, oi_5, oi_61, P_closeCall, P_emit, P_emitExp, P_enter, P_isSetAt, P_isSign, P_push, P_take, P_wait, P_whole]; try dsimp only
        refine ⟨fun h3 => ?_, fun h3 => ?_⟩
        · apply hB
          dsimp only [rgo, rfd, Bnamed, Nat.beq, rwp, rst, lv_args, rlk, rs1, rs2, rdl, rky, rct, rcs, rcd, rno, rsw, Value.category, List.filter, List.take, List.drop, List.reverse, List.reverseAux, List.cons_append, List.nil_append, Option.toList, Int.toNat, Int.reduceToNat, if_pos, if_neg, reduceIte, ↓reduceIte, Nat.reduceAdd, Nat.reduceEqDiff, Nat.reduceBEq, beq_self_eq_true, Bool.not_true, Bool.not_false, Bool.and_true, Bool.and_false, Bool.true_and, Bool.false_and, gI_sI, gI_sL, gI_sA, gI_sM, gL_sI, gL_sL, gL_sA, gL_sM, aI_sI, aI_sL, aI_sA, aI_sM, aL_sI, aL_sL, aL_sA, aL_sM, gI_em, gI_emx, gI_pu, gI_wh, Bnamed_0, Bnamed_12, Bnamed_14, Bnamed_18, Bnamed_29, Bnamed_46, Bnamed_53, Bnamed_55, Bnamed_61, Bnamed_74, Bnamed_88, Bnamed_97, Bnamed_104, Bnamed_111, Bnamed_113, Bnamed_130, Bnamed_136, Bnamed_141, Bnamed_151, Bnamed_161, Bnamed_184, Bnamed_186, Bnamed_213, oi_0, oi_1, oi_16, oi_2, oi_3, oi_309, oi_310, oi_4, oi_40, oi_400, oi_41, oi_5, oi_61, P_closeCall, P_emit, P_emitExp, P_enter, P_isSetAt, P_isSign, P_push, P_take, P_wait, P_whole]; try dsimp only
          refine ⟨rfl, (by decide), (⟨by lia, by lia⟩), fun w4 τ4 hq4 => ?_⟩
          obtain ⟨r4, rfl, hr4, e4⟩ := hq4
          obtain rfl := e4.symm
          rcases hr4 with rfl | ⟨rfl, hw4⟩
          · dsimp only [Option.toList, List.cons_append, List.nil_append, Nat.beq, gI_sI, gI_sL, gI_sA, gI_sM, gL_sI, gL_sL, gL_sA, gL_sM, aI_sI, aI_sL, aI_sA, aI_sM, aL_sI, aL_sL, aL_sA, aL_sM, gI_em, gI_emx, gI_pu, gI_wh]
            refine ⟨fun h5 => ?_, fun h5 => absurd h5 (by decide)⟩
            clear h5
            apply hB
            dsimp only [rgo, rfd, Bnamed, Nat.beq, rwp, rst, lv_args, rlk, rs1, rs2, rdl, rky, rct, rcs, rcd, rno, rsw, Value.category, List.filter, List.take, List.drop, List.reverse, List.reverseAux, List.cons_append, List.nil_append, Option.toList, Int.toNat, Int.reduceToNat, if_pos, if_neg, reduceIte, ↓reduceIte, Nat.reduceAdd, Nat.reduceEqDiff, Nat.reduceBEq, beq_self_eq_true, Bool.not_true, Bool.not_false, Bool.and_true, Bool.and_false, Bool.true_and, Bool.false_and, gI_sI, gI_sL, gI_sA, gI_sM, gL_sI, gL_sL, gL_sA, gL_sM, aI_sI, aI_sL, aI_sA, aI_sM, aL_sI, aL_sL, aL_sA, aL_sM, gI_em, gI_emx, gI_pu, gI_wh, Bnamed_0, Bnamed_12, Bnamed_14, Bnamed_18, Bnamed_29, Bnamed_46, Bnamed_53, Bnamed_55, Bnamed_61, Bnamed_74, Bnamed_88, Bnamed_97, Bnamed_104, Bnamed_111, Bnamed_113, Bnamed_130, Bnamed_136, Bnamed_141, Bnamed_151, Bnamed_161, Bnamed_184, Bnamed_186, Bnamed_213, oi_0, oi_1, oi_16, oi_2, oi_3, oi_309, oi_310, oi_4, oi_40, oi_400, oi_41, oi_5, oi_61, P_closeCall, P_emit, P_emitExp, P_enter, P_isSetAt, P_isSign, P_push, P_take, P_wait, P_whole]; try dsimp only
            refine ⟨rfl, (by decide), (⟨by lia, by lia⟩), fun w6 τ6 hq6 => ?_⟩
            obtain ⟨r6, rfl, hr6, e6⟩ := hq6
            obtain rfl := e6.symm
            rcases hr6 with rfl | ⟨rfl, hw6⟩
            · dsimp only [Option.toList, List.cons_append, List.nil_append, Nat.beq, gI_sI, gI_sL, gI_sA, gI_sM, gL_sI, gL_sL, gL_sA, gL_sM, aI_sI, aI_sL, aI_sA, aI_sM, aL_sI, aL_sL, aL_sA, aL_sM, gI_em, gI_emx, gI_pu, gI_wh]
              refine ⟨fun h7 => absurd h7 (by decide), fun h7 => ?_⟩
              clear h7
              apply hB
              dsimp only [rgo, rfd, Bnamed, Nat.beq, rwp, rst, lv_args, rlk, rs1, rs2, rdl, rky, rct, rcs, rcd, rno, rsw, Value.category, List.filter, List.take, List.drop, List.reverse, List.reverseAux, List.cons_append, List.nil_append, Option.toList, Int.toNat, Int.reduceToNat, if_pos, if_neg, reduceIte, ↓reduceIte, Nat.reduceAdd, Nat.reduceEqDiff, Nat.reduceBEq, beq_self_eq_true, Bool.not_true, Bool.not_false, Bool.and_true, Bool.and_false, Bool.true_and, Bool.false_and, gI_sI, gI_sL, gI_sA, gI_sM, gL_sI, gL_sL, gL_sA, gL_sM, aI_sI, aI_sL, aI_sA, aI_sM, aL_sI, aL_sL, aL_sA, aL_sM, gI_em, gI_emx, gI_pu, gI_wh, Bnamed_0, Bnamed_12, Bnamed_14, Bnamed_18, Bnamed_29, Bnamed_46, Bnamed_53, Bnamed_55, Bnamed_61, Bnamed_74, Bnamed_88, Bnamed_97, Bnamed_104, Bnamed_111, Bnamed_113, Bnamed_130, Bnamed_136, Bnamed_141, Bnamed_151, Bnamed_161, Bnamed_184, Bnamed_186, Bnamed_213, oi_0, oi_1, oi_16, oi_2, oi_3, oi_309, oi_310, oi_4, oi_40, oi_400, oi_41, oi_5, oi_61, P_closeCall, P_emit, P_emitExp, P_enter, P_isSetAt, P_isSign, P_push, P_take, P_wait, P_whole]; try dsimp only
              refine ⟨rfl, (by decide), (⟨by lia, by lia⟩), fun w8 τ8 hq8 => ?_⟩
              obtain ⟨r8, rfl, hr8, e8⟩ := hq8
              obtain rfl := e8.symm
              rcases hr8 with rfl | ⟨rfl, hw8⟩
              · dsimp only [Option.toList, List.cons_append, List.nil_append, Nat.beq, gI_sI, gI_sL, gI_sA, gI_sM, gL_sI, gL_sL, gL_sA, gL_sM, aI_sI, aI_sL, aI_sA, aI_sM, aL_sI, aL_sL, aL_sA, aL_sM, gI_em, gI_emx, gI_pu, gI_wh]
                refine ⟨fun h9 => ?_, fun h9 => absurd h9 (by decide)⟩
                clear h9
                apply hB
                dsimp only [rgo, rfd, Bnamed, Nat.beq, rwp, rst, lv_args, rlk, rs1, rs2, rdl, rky, rct, rcs, rcd, rno, rsw, Value.category, List.filter, List.take, List.drop, List.reverse, List.reverseAux, List.cons_append, List.nil_append, Option.toList, Int.toNat, Int.reduceToNat, if_pos, if_neg, reduceIte, ↓reduceIte, Nat.reduceAdd, Nat.reduceEqDiff, Nat.reduceBEq, beq_self_eq_true, Bool.not_true, Bool.not_false, Bool.and_true, Bool.and_false, Bool.true_and, Bool.false_and, gI_sI, gI_sL, gI_sA, gI_sM, gL_sI, gL_sL, gL_sA, gL_sM, aI_sI, aI_sL, aI_sA, aI_sM, aL_sI, aL_sL, aL_sA, aL_sM, gI_em, gI_emx, gI_pu, gI_wh, Bnamed_0, Bnamed_12, Bnamed_14, Bnamed_18, Bnamed_29, Bnamed_46, Bnamed_53, Bnamed_55, Bnamed_61, Bnamed_74, Bnamed_88, Bnamed_97, Bnamed_104, Bnamed_111, Bnamed_113, Bnamed_130, Bnamed_136, Bnamed_141, Bnamed_151, Bnamed_161, Bnamed_184, Bnamed_186, Bnamed_213, oi_0, oi_1, oi_16, oi_2, oi_3, oi_309, oi_310, oi_4, oi_40, oi_400, oi_41, oi_5, oi_61, P_closeCall, P_emit, P_emitExp, P_enter, P_isSetAt, P_isSign, P_push, P_take, P_wait, P_whole]; try dsimp only
                refine ⟨rfl, (by decide), (⟨by lia, by lia⟩), fun w10 τ10 hq10 => ?_⟩
                obtain ⟨rfl, rfl⟩ := hq10
                dsimp only [Option.toList, List.cons_append, List.nil_append, Nat.beq, gI_sI, gI_sL, gI_sA, gI_sM, gL_sI, gL_sL, gL_sA, gL_sM, aI_sI, aI_sL, aI_sA, aI_sM, aL_sI, aL_sL, aL_sA, aL_sM, gI_em, gI_emx, gI_pu, gI_wh]
                refine ⟨rfl, rfl, rfl, (by decide), (⟨by lia, by lia⟩), fun w11 τ11 hq11 => ?_⟩
                obtain ⟨rfl, rfl⟩ := hq11
                dsimp only [Option.toList, List.cons_append, List.nil_append, Nat.beq, gI_sI, gI_sL, gI_sA, gI_sM, gL_sI, gL_sL, gL_sA, gL_sM, aI_sI, aI_sL, aI_sA, aI_sM, aL_sI, aL_sL, aL_sA, aL_sM, gI_em, gI_emx, gI_pu, gI_wh]
                refine ⟨Or.inr rfl, ?_⟩
                refine ⟨_, rfl, Or.inr ⟨rfl, fun σ0 hσ0 => Or.inr ⟨hw0, ?_⟩, ?_⟩⟩
                · have t1 := XI.take hσ0 (by assumption) rfl
                  exact XI.leaf (t1.weak (0 + 1) (0 + 1) ⟨by decide, by decide⟩ ⟨by decide, by decide⟩) 2 0 0 (gI σ 14) (gI σ 14) (gI σ 14) (Or.inr (Or.inl rfl)) ⟨by decide, by decide, by lia, by lia, by lia, by lia, True.intro, True.intro⟩ (fun q => absurd q (by decide)) ⟨by decide, by decide⟩
                · show gI σ 14 < gI σ 14 + 1
                  lia
              · dsimp only [Option.toList, List.cons_append, List.nil_append, Nat.beq, gI_sI, gI_sL, gI_sA, gI_sM, gL_sI, gL_sL, gL_sA, gL_sM, aI_sI, aI_sL, aI_sA, aI_sM, aL_sI, aL_sL, aL_sA, aL_sM, gI_em, gI_emx, gI_pu, gI_wh]
                refine ⟨fun h12 => absurd h12 (by decide), fun h12 => ?_⟩
                clear h12
                apply hB
                dsimp only [rgo, rfd, Bnamed, Nat.beq, rwp, rst, lv_args, rlk, rs1, rs2, rdl, rky, rct, rcs, rcd, rno, rsw, Value.category, List.filter, List.take, List.drop, List.reverse, List.reverseAux, List.cons_append, List.nil_append, Option.toList, Int.toNat, Int.reduceToNat, if_pos, if_neg, reduceIte, ↓reduceIte, Nat.reduceAdd, Nat.reduceEqDiff, Nat.reduceBEq, beq_self_eq_true, Bool.not_true, Bool.not_false, Bool.and_true, Bool.and_false, Bool.true_and, Bool.false_and, gI_sI, gI_sL, gI_sA, gI_sM, gL_sI, gL_sL, gL_sA, gL_sM, aI_sI, aI_sL, aI_sA, aI_sM, aL_sI, aL_sL, aL_sA, aL_sM, gI_em, gI_emx, gI_pu, gI_wh, Bnamed_0, Bnamed_12, Bnamed_14, Bnamed_18, Bnamed_29, Bnamed_46, Bnamed_53, Bnamed_55, Bnamed_61, Bnamed_74, Bnamed_88, Bnamed_97, Bnamed_104, Bnamed_111, Bnamed_113, Bnamed_130, Bnamed_136, Bnamed_141, Bnamed_151, Bnamed_161, Bnamed_184, Bnamed_186, Bnamed_213, oi_0, oi_1, oi_16, oi_2, oi_3, oi_309, oi_310, oi_4, oi_40, oi_400, oi_41, oi_5, oi_61, P_closeCall, P_emit, P_emitExp, P_enter, P_isSetAt, P_isSign, P_push, P_take, P_wait, P_whole]; try dsimp only
                refine ⟨rfl, rfl, rfl, (in_6 (by lia) (by lia)), rfl, rfl, (by decide), (⟨by lia, by lia⟩), fun w13 τ13 hq13 => ?_⟩
                obtain ⟨r13, rfl, hq13⟩ := hq13
                rcases hq13 with ⟨rfl, hp13, rfl⟩ | ⟨rfl, fa13, fb13, rfl⟩
                · dsimp only [Option.toList, List.cons_append, List.nil_append, Nat.beq, gI_sI, gI_sL, gI_sA, gI_sM, gL_sI, gL_sL, gL_sA, gL_sM, aI_sI, aI_sL, aI_sA, aI_sM, aL_sI, aL_sL, aL_sA, aL_sM, gI_em, gI_emx, gI_pu, gI_wh]
                  try dsimp only [Option.toList, List.cons_append, List.nil_append, Nat.beq, gI_sI, gI_sL, gI_sA, gI_sM, gL_sI, gL_sL, gL_sA, gL_sM, aI_sI, aI_sL, aI_sA, aI_sM, aL_sI, aL_sL, aL_sA, aL_sM, gI_em, gI_emx, gI_pu, gI_wh] at hp13
                  refine ⟨fun h14 => ?_, fun h14 => absurd h14 (by decide)⟩
                  clear h14
                  apply hB
                  dsimp only [rgo, rfd, Bnamed, Nat.beq, rwp, rst, lv_args, rlk, rs1, rs2, rdl, rky, rct, rcs, rcd, rno, rsw, Value.category, List.filter, List.take, List.drop, List.reverse, List.reverseAux, List.cons_append, List.nil_append, Option.toList, Int.toNat, Int.reduceToNat, if_pos, if_neg, reduceIte, ↓reduceIte, Nat.reduceAdd, Nat.reduceEqDiff, Nat.reduceBEq, beq_self_eq_true, Bool.not_true, Bool.not_false, Bool.and_true, Bool.and_false, Bool.true_and, Bool.false_and, gI_sI, gI_sL, gI_sA, gI_sM, gL_sI, gL_sL, gL_sA, gL_sM, aI_sI, aI_sL, aI_sA, aI_sM, aL_sI, aL_sL, aL_sA, aL_sM, gI_em, gI_emx, gI_pu, gI_wh, Bnamed_0, Bnamed_12, Bnamed_14, Bnamed_18, Bnamed_29, Bnamed_46, Bnamed_53, Bnamed_55, Bnamed_61, Bnamed_74, Bnamed_88, Bnamed_97, Bnamed_104, Bnamed_111, Bnamed_113, Bnamed_130, Bnamed_136, Bnamed_141, Bnamed_151, Bnamed_161, Bnamed_184, Bnamed_186, Bnamed_213, oi_0, oi_1, oi_16, oi_2, oi_3, oi_309, oi_310, oi_4, oi_40, oi_400, oi_41, oi_5, oi_61, P_closeCall, P_emit, P_emitExp, P_enter, P_isSetAt, P_isSign, P_push, P_take, P_wait, P_whole]; try dsimp only
                  refine ⟨rfl, (by decide), (⟨by lia, by lia⟩), fun w15 τ15 hq15 => ?_⟩
                  obtain ⟨rfl, rfl⟩ := hq15
                  dsimp only [Option.toList, List.cons_append, List.nil_append, Nat.beq, gI_sI, gI_sL, gI_sA, gI_sM, gL_sI, gL_sL, gL_sA, gL_sM, aI_sI, aI_sL, aI_sA, aI_sM, aL_sI, aL_sL, aL_sA, aL_sM, gI_em, gI_emx, gI_pu, gI_wh]
                  refine ⟨rfl, rfl, rfl, (by decide), (⟨by lia, by lia⟩), fun w16 τ16 hq16 => ?_⟩
                  obtain ⟨rfl, rfl⟩ := hq16
                  dsimp only [Option.toList, List.cons_append, List.nil_append, Nat.beq, gI_sI, gI_sL, gI_sA, gI_sM, gL_sI, gL_sL, gL_sA, gL_sM, aI_sI, aI_sL, aI_sA, aI_sM, aL_sI, aL_sL, aL_sA, aL_sM, gI_em, gI_emx, gI_pu, gI_wh]
                  refine ⟨Or.inr rfl, ?_⟩
                  refine ⟨_, rfl, Or.inr ⟨rfl, fun σ0 hσ0 => Or.inr ⟨hw0, ?_⟩, ?_⟩⟩
                  · have t1 := XI.take hσ0 (by assumption) rfl
                    have t2 := XI.take t1 (by assumption) rfl
                    exact XI.leaf (t2.weak (0 + 1) (0 + 1) ⟨by decide, by decide⟩ ⟨by decide, by decide⟩) 3 _ 0 (gI σ 14) (gI σ 14) (gI σ 14 + 1) (Or.inr (Or.inr (Or.inl rfl))) ⟨by decide, by decide, by lia, by lia, by lia, by lia, True.intro, True.intro⟩ (fun q => absurd q (by decide)) ⟨by decide, by decide⟩
                  · show gI σ 14 < gI σ 14 + 1 + 1
                    lia
                · dsimp only [Option.toList, List.cons_append, List.nil_append, Nat.beq, gI_sI, gI_sL, gI_sA, gI_sM, gL_sI, gL_sL, gL_sA, gL_sM, aI_sI, aI_sL, aI_sA, aI_sM, aL_sI, aL_sL, aL_sA, aL_sM, gI_em, gI_emx, gI_pu, gI_wh]
                  refine ⟨fun h17 => absurd h17 (by decide), fun h17 => ?_⟩
                  clear h17
                  apply hB
                  dsimp only [rgo, rfd, Bnamed, Nat.beq, rwp, rst, lv_args, rlk, rs1, rs2, rdl, rky, rct, rcs, rcd, rno, rsw, Value.category, List.filter, List.take, List.drop, List.reverse, List.reverseAux, List.cons_append, List.nil_append, Option.toList, Int.toNat, Int.reduceToNat, if_pos, if_neg, reduceIte, ↓reduceIte, Nat.reduceAdd, Nat.reduceEqDiff, Nat.reduceBEq, beq_self_eq_true, Bool.not_true, Bool.not_false, Bool.and_true, Bool.and_false, Bool.true_and, Bool.false_and, gI_sI, gI_sL, gI_sA, gI_sM, gL_sI, gL_sL, gL_sA, gL_sM, aI_sI, aI_sL, aI_sA, aI_sM, aL_sI, aL_sL, aL_sA, aL_sM, gI_em, gI_emx, gI_pu, gI_wh, Bnamed_0, Bnamed_12, Bnamed_14, Bnamed_18, Bnamed_29, Bnamed_46, Bnamed_53, Bnamed_55, Bnamed_61, Bnamed_74, Bnamed_88, Bnamed_97, Bnamed_104, Bnamed_111, Bnamed_113, Bnamed_130, Bnamed_136, Bnamed_141, Bnamed_151, Bnamed_161, Bnamed_184, Bnamed_186, Bnamed_213, oi_0, oi_1, oi_16, oi_2, oi_3, oi_309, oi_310, oi_4, oi_40, oi_400, oi_41, oi_5, oi_61, P_closeCall, P_emit, P_emitExp, P_enter, P_isSetAt, P_isSign, P_push, P_take, P_wait, P_whole]; try dsimp only
                  refine ⟨Or.inl rfl, ?_⟩
                  exact ⟨_, rfl, Or.inl ⟨rfl, by repeat (first | exact Fx.rf | refine Fx.a ?_ rfl | refine Fx.i ?_ rfl)⟩⟩
            · dsimp only [Option.toList, List.cons_append, List.nil_append, Nat.beq, gI_sI, gI_sL, gI_sA, gI_sM, gL_sI, gL_sL, gL_sA, gL_sM, aI_sI, aI_sL, aI_sA, aI_sM, aL_sI, aL_sL, aL_sA, aL_sM, gI_em, gI_emx, gI_pu, gI_wh]
              refine ⟨fun h18 => ?_, fun h18 => absurd h18 (by decide)⟩
              clear h18
              apply hB
              dsimp only [rgo, rfd, Bnamed, Nat.beq, rwp, rst, lv_args, rlk, rs1, rs2, rdl, rky, rct, rcs, rcd, rno, rsw, Value.category, List.filter, List.take, List.drop, List.reverse, List.reverseAux, List.cons_append, List.nil_append, Option.toList, Int.toNat, Int.reduceToNat, if_pos, if_neg, reduceIte, ↓reduceIte, Nat.reduceAdd, Nat.reduceEqDiff, Nat.reduceBEq, beq_self_eq_true, Bool.not_true, Bool.not_false, Bool.and_true, Bool.and_false, Bool.true_and, Bool.false_and, gI_sI, gI_sL, gI_sA, gI_sM, gL_sI, gL_sL, gL_sA, gL_sM, aI_sI, aI_sL, aI_sA, aI_sM, aL_sI, aL_sL, aL_sA, aL_sM, gI_em, gI_emx, gI_pu, gI_wh, Bnamed_0, Bnamed_12, Bnamed_14, Bnamed_18, Bnamed_29, Bnamed_46, Bnamed_53, Bnamed_55, Bnamed_61, Bnamed_74, Bnamed_88, Bnamed_97, Bnamed_104, Bnamed_111, Bnamed_113, Bnamed_130, Bnamed_136, Bnamed_141, Bnamed_151, Bnamed_161, Bnamed_184, Bnamed_186, Bnamed_213, oi_0, oi_1, oi_16, oi_2, oi_3, oi_309, oi_310, oi_4, oi_40, oi_400, oi_41, oi_5, oi_61, P_closeCall, P_emit, P_emitExp, P_enter, P_isSetAt, P_isSign, P_push, P_take, P_wait, P_whole]; try dsimp only
              refine ⟨rfl, rfl, rfl, (in_6 (by lia) (by lia)), rfl, rfl, (by decide), (⟨by lia, by lia⟩), fun w19 τ19 hq19 => ?_⟩
              obtain ⟨r19, rfl, hq19⟩ := hq19
              rcases hq19 with ⟨rfl, hp19, rfl⟩ | ⟨rfl, fa19, fb19, rfl⟩
              · dsimp only [Option.toList, List.cons_append, List.nil_append, Nat.beq, gI_sI, gI_sL, gI_sA, gI_sM, gL_sI, gL_sL, gL_sA, gL_sM, aI_sI, aI_sL, aI_sA, aI_sM, aL_sI, aL_sL, aL_sA, aL_sM, gI_em, gI_emx, gI_pu, gI_wh]
                try dsimp only [Option.toList, List.cons_append, List.nil_append, Nat.beq, gI_sI, gI_sL, gI_sA, gI_sM, gL_sI, gL_sL, gL_sA, gL_sM, aI_sI, aI_sL, aI_sA, aI_sM, aL_sI, aL_sL, aL_sA, aL_sM, gI_em, gI_emx, gI_pu, gI_wh] at hp19
                refine ⟨fun h20 => ?_, fun h20 => absurd h20 (by decide)⟩
                clear h20
                apply hB
                dsimp only [rgo, rfd, Bnamed, Nat.beq, rwp, rst, lv_args, rlk, rs1, rs2, rdl, rky, rct, rcs, rcd, rno, rsw, Value.category, List.filter, List.take, List.drop, List.reverse, List.reverseAux, List.cons_append, List.nil_append, Option.toList, Int.toNat, Int.reduceToNat, if_pos, if_neg, reduceIte, ↓reduceIte, Nat.reduceAdd, Nat.reduceEqDiff, Nat.reduceBEq, beq_self_eq_true, Bool.not_true, Bool.not_false, Bool.and_true, Bool.and_false, Bool.true_and, Bool.false_and, gI_sI, gI_sL, gI_sA, gI_sM, gL_sI, gL_sL, gL_sA, gL_sM, aI_sI, aI_sL, aI_sA, aI_sM, aL_sI, aL_sL, aL_sA, aL_sM, gI_em, gI_emx, gI_pu, gI_wh, Bnamed_0, Bnamed_12, Bnamed_14, Bnamed_18, Bnamed_29, Bnamed_46, Bnamed_53, Bnamed_55, Bnamed_61, Bnamed_74, Bnamed_88, Bnamed_97, Bnamed_104, Bnamed_111, Bnamed_113, Bnamed_130, Bnamed_136, Bnamed_141, Bnamed_151, Bnamed_161, Bnamed_184, Bnamed_186, Bnamed_213, oi_0, oi_1, oi_16, oi_2, oi_3, oi_309, oi_310, oi_4, oi_40, oi_400, oi_41, oi_5, oi_61, P_closeCall, P_emit, P_emitExp, P_enter, P_isSetAt, P_isSign, P_push, P_take, P_wait, P_whole]; try dsimp only
                refine ⟨rfl, (by decide), (⟨by lia, by lia⟩), fun w21 τ21 hq21 => ?_⟩
                obtain ⟨rfl, rfl⟩ := hq21
                dsimp only [Option.toList, List.cons_append, List.nil_append, Nat.beq, gI_sI, gI_sL, gI_sA, gI_sM, gL_sI, gL_sL, gL_sA, gL_sM, aI_sI, aI_sL, aI_sA, aI_sM, aL_sI, aL_sL, aL_sA, aL_sM, gI_em, gI_emx, gI_pu, gI_wh]
                refine ⟨rfl, rfl, rfl, (by decide), (⟨by lia, by lia⟩), fun w22 τ22 hq22 => ?_⟩
                obtain ⟨rfl, rfl⟩ := hq22
                dsimp only [Option.toList, List.cons_append, List.nil_append, Nat.beq, gI_sI, gI_sL, gI_sA, gI_sM, gL_sI, gL_sL, gL_sA, gL_sM, aI_sI, aI_sL, aI_sA, aI_sM, aL_sI, aL_sL, aL_sA, aL_sM, gI_em, gI_emx, gI_pu, gI_wh]
                refine ⟨Or.inr rfl, ?_⟩
                refine ⟨_, rfl, Or.inr ⟨rfl, fun σ0 hσ0 => Or.inr ⟨hw0, ?_⟩, ?_⟩⟩
                · have t1 := XI.take hσ0 (by assumption) rfl
                  have t2 := XI.take t1 (by assumption) rfl
                  exact XI.leaf (t2.weak (0 + 1) (0 + 1) ⟨by decide, by decide⟩ ⟨by decide, by decide⟩) 3 _ 0 (gI σ 14) (gI σ 14) (gI σ 14 + 1) (Or.inr (Or.inr (Or.inl rfl))) ⟨by decide, by decide, by lia, by lia, by lia, by lia, True.intro, True.intro⟩ (fun q => absurd q (by decide)) ⟨by decide, by decide⟩
                · show gI σ 14 < gI σ 14 + 1 + 1
                  lia
              · dsimp only [Option.toList, List.cons_append, List.nil_append, Nat.beq, gI_sI, gI_sL, gI_sA, gI_sM, gL_sI, gL_sL, gL_sA, gL_sM, aI_sI, aI_sL, aI_sA, aI_sM, aL_sI, aL_sL, aL_sA, aL_sM, gI_em, gI_emx, gI_pu, gI_wh]
                refine ⟨fun h23 => absurd h23 (by decide), fun h23 => ?_⟩
                clear h23
                apply hB
                dsimp only [rgo, rfd, Bnamed, Nat.beq, rwp, rst, lv_args, rlk, rs1, rs2, rdl, rky, rct, rcs, rcd, rno, rsw, Value.category, List.filter, List.take, List.drop, List.reverse, List.reverseAux, List.cons_append, List.nil_append, Option.toList, Int.toNat, Int.reduceToNat, if_pos, if_neg, reduceIte, ↓reduceIte, Nat.reduceAdd, Nat.reduceEqDiff, Nat.reduceBEq, beq_self_eq_true, Bool.not_true, Bool.not_false, Bool.and_true, Bool.and_false, Bool.true_and, Bool.false_and, gI_sI, gI_sL, gI_sA, gI_sM, gL_sI, gL_sL, gL_sA, gL_sM, aI_sI, aI_sL, aI_sA, aI_sM, aL_sI, aL_sL, aL_sA, aL_sM, gI_em, gI_emx, gI_pu, gI_wh, Bnamed_0, Bnamed_12, Bnamed_14, Bnamed_18, Bnamed_29, Bnamed_46, Bnamed_53, Bnamed_55, Bnamed_61, Bnamed_74, Bnamed_88, Bnamed_97, Bnamed_104, Bnamed_111, Bnamed_113, Bnamed_130, Bnamed_136, Bnamed_141, Bnamed_151, Bnamed_161, Bnamed_184, Bnamed_186, Bnamed_213, oi_0, oi_1, oi_16, oi_2, oi_3, oi_309, oi_310, oi_4, oi_40, oi_400, oi_41, oi_5, oi_61, P_closeCall, P_emit, P_emitExp, P_enter, P_isSetAt, P_isSign, P_push, P_take, P_wait, P_whole]; try dsimp only
                refine ⟨Or.inl rfl, ?_⟩
                exact ⟨_, rfl, Or.inl ⟨rfl, by repeat (first | exact Fx.rf | refine Fx.a ?_ rfl | refine Fx.i ?_ rfl)⟩⟩
          · dsimp only [Option.toList, List.cons_append, List.nil_append, Nat.beq, gI_sI, gI_sL, gI_sA, gI_sM, gL_sI, gL_sL, gL_sA, gL_sM, aI_sI, aI_sL, aI_sA, aI_sM, aL_sI, aL_sL, aL_sA, aL_sM, gI_em, gI_emx, gI_pu, gI_wh]
            refine ⟨fun h24 => absurd h24 (by decide), fun h24 => ?_⟩
            clear h24
            apply hB
            dsimp only [rgo, rfd, Bnamed, Nat.beq, rwp, rst, lv_args, rlk, rs1, rs2, rdl, rky, rct, rcs, rcd, rno, rsw, Value.category, List.filter, List.take, List.drop, List.reverse, List.reverseAux, List.cons_append, List.nil_append, Option.toList, Int.toNat, Int.reduceToNat, if_pos, if_neg, reduceIte, ↓reduceIte, Nat.reduceAdd, Nat.reduceEqDiff, Nat.reduceBEq, beq_self_eq_true, Bool.not_true, Bool.not_false, Bool.and_true, Bool.and_false, Bool.true_and, Bool.false_and, gI_sI, gI_sL, gI_sA, gI_sM, gL_sI, gL_sL, gL_sA, gL_sM, aI_sI, aI_sL, aI_sA, aI_sM, aL_sI, aL_sL, aL_sA, aL_sM, gI_em, gI_emx, gI_pu, gI_wh, Bnamed_0, Bnamed_12, Bnamed_14, Bnamed_18, Bnamed_29, Bnamed_46, Bnamed_53, Bnamed_55, Bnamed_61, Bnamed_74, Bnamed_88, Bnamed_97, Bnamed_104, Bnamed_111, Bnamed_113, Bnamed_130, Bnamed_136, Bnamed_141, Bnamed_151, Bnamed_161, Bnamed_184, Bnamed_186, Bnamed_213, oi_0, oi_1, oi_16, oi_2, oi_3, oi_309, oi_310, oi_4, oi_40, oi_400, oi_41, oi_5, oi_61, P_closeCall, P_emit, P_emitExp, P_enter, P_isSetAt, P_isSign, P_push, P_take, P_wait, P_whole]; try dsimp only
            refine ⟨rfl, (by decide), (⟨by lia, by lia⟩), fun w25 τ25 hq25 => ?_⟩
            obtain ⟨r25, rfl, hq25⟩ := hq25
            rcases hq25 with ⟨rfl, hp25, rfl⟩ | ⟨rfl, fa25, fb25, rfl⟩
            · dsimp only [Option.toList, List.cons_append, List.nil_append, Nat.beq, gI_sI, gI_sL, gI_sA, gI_sM, gL_sI, gL_sL, gL_sA, gL_sM, aI_sI, aI_sL, aI_sA, aI_sM, aL_sI, aL_sL, aL_sA, aL_sM, gI_em, gI_emx, gI_pu, gI_wh]
              try dsimp only [Option.toList, List.cons_append, List.nil_append, Nat.beq, gI_sI, gI_sL, gI_sA, gI_sM, gL_sI, gL_sL, gL_sA, gL_sM, aI_sI, aI_sL, aI_sA, aI_sM, aL_sI, aL_sL, aL_sA, aL_sM, gI_em, gI_emx, gI_pu, gI_wh] at hp25
              refine ⟨fun h26 => absurd h26 (by decide), fun h26 => ?_⟩
              clear h26
              apply hB
              dsimp only [rgo, rfd, Bnamed, Nat.beq, rwp, rst, lv_args, rlk, rs1, rs2, rdl, rky, rct, rcs, rcd, rno, rsw, Value.category, List.filter, List.take, List.drop, List.reverse, List.reverseAux, List.cons_append, List.nil_append, Option.toList, Int.toNat, Int.reduceToNat, if_pos, if_neg, reduceIte, ↓reduceIte, Nat.reduceAdd, Nat.reduceEqDiff, Nat.reduceBEq, beq_self_eq_true, Bool.not_true, Bool.not_false, Bool.and_true, Bool.and_false, Bool.true_and, Bool.false_and, gI_sI, gI_sL, gI_sA, gI_sM, gL_sI, gL_sL, gL_sA, gL_sM, aI_sI, aI_sL, aI_sA, aI_sM, aL_sI, aL_sL, aL_sA, aL_sM, gI_em, gI_emx, gI_pu, gI_wh, Bnamed_0, Bnamed_12, Bnamed_14, Bnamed_18, Bnamed_29, Bnamed_46, Bnamed_53, Bnamed_55, Bnamed_61, Bnamed_74, Bnamed_88, Bnamed_97, Bnamed_104, Bnamed_111, Bnamed_113, Bnamed_130, Bnamed_136, Bnamed_141, Bnamed_151, Bnamed_161, Bnamed_184, Bnamed_186, Bnamed_213, oi_0, oi_1, oi_16, oi_2, oi_3, oi_309, oi_310, oi_4, oi_40, oi_400, oi_41, oi_5, oi_61, P_closeCall, P_emit, P_emitExp, P_enter, P_isSetAt, P_isSign, P_push, P_take, P_wait, P_whole]; try dsimp only
              refine ⟨rfl, (by decide), (⟨by lia, by lia, by lia, by lia⟩), fun w27 τ27 hq27 => ?_⟩
              obtain ⟨r27, rfl, hq27⟩ := hq27
              rcases hq27 with ⟨rfl, hd27, rfl⟩ | ⟨rfl, fa27, fb27, fc27, rfl⟩
              · dsimp only [Option.toList, List.cons_append, List.nil_append, Nat.beq, gI_sI, gI_sL, gI_sA, gI_sM, gL_sI, gL_sL, gL_sA, gL_sM, aI_sI, aI_sL, aI_sA, aI_sM, aL_sI, aL_sL, aL_sA, aL_sM, gI_em, gI_emx, gI_pu, gI_wh]
                try dsimp only [Option.toList, List.cons_append, List.nil_append, Nat.beq, gI_sI, gI_sL, gI_sA, gI_sM, gL_sI, gL_sL, gL_sA, gL_sM, aI_sI, aI_sL, aI_sA, aI_sM, aL_sI, aL_sL, aL_sA, aL_sM, gI_em, gI_emx, gI_pu, gI_wh] at hd27
                refine ⟨fun h28 => ?_, fun h28 => absurd h28 (by decide)⟩
                clear h28
                apply hB
                dsimp only [rgo, rfd, Bnamed, Nat.beq, rwp, rst, lv_args, rlk, rs1, rs2, rdl, rky, rct, rcs, rcd, rno, rsw, Value.category, List.filter, List.take, List.drop, List.reverse, List.reverseAux, List.cons_append, List.nil_append, Option.toList, Int.toNat, Int.reduceToNat, if_pos, if_neg, reduceIte, ↓reduceIte, Nat.reduceAdd, Nat.reduceEqDiff, Nat.reduceBEq, beq_self_eq_true, Bool.not_true, Bool.not_false, Bool.and_true, Bool.and_false, Bool.true_and, Bool.false_and, gI_sI, gI_sL, gI_sA, gI_sM, gL_sI, gL_sL, gL_sA, gL_sM, aI_sI, aI_sL, aI_sA, aI_sM, aL_sI, aL_sL, aL_sA, aL_sM, gI_em, gI_emx, gI_pu, gI_wh, Bnamed_0, Bnamed_12, Bnamed_14, Bnamed_18, Bnamed_29, Bnamed_46, Bnamed_53, Bnamed_55, Bnamed_61, Bnamed_74, Bnamed_88, Bnamed_97, Bnamed_104, Bnamed_111, Bnamed_113, Bnamed_130, Bnamed_136, Bnamed_141, Bnamed_151, Bnamed_161, Bnamed_184, Bnamed_186, Bnamed_213, oi_0, oi_1, oi_16, oi_2, oi_3, oi_309, oi_310, oi_4, oi_40, oi_400, oi_41, oi_5, oi_61, P_closeCall, P_emit, P_emitExp, P_enter, P_isSetAt, P_isSign, P_push, P_take, P_wait, P_whole]; try dsimp only
                refine ⟨rfl, (by decide), (⟨by lia, by lia⟩), fun w29 τ29 hq29 => ?_⟩
                obtain ⟨rfl, rfl⟩ := hq29
                dsimp only [Option.toList, List.cons_append, List.nil_append, Nat.beq, gI_sI, gI_sL, gI_sA, gI_sM, gL_sI, gL_sL, gL_sA, gL_sM, aI_sI, aI_sL, aI_sA, aI_sM, aL_sI, aL_sL, aL_sA, aL_sM, gI_em, gI_emx, gI_pu, gI_wh]
                refine ⟨rfl, (by decide), (⟨by lia, by lia⟩), fun w30 τ30 hq30 => ?_⟩
                obtain ⟨r30, rfl, hr30, e30⟩ := hq30
                obtain rfl := e30.symm
                rcases hr30 with rfl | ⟨rfl, hw30⟩
                · dsimp only [Option.toList, List.cons_append, List.nil_append, Nat.beq, gI_sI, gI_sL, gI_sA, gI_sM, gL_sI, gL_sL, gL_sA, gL_sM, aI_sI, aI_sL, aI_sA, aI_sM, aL_sI, aL_sL, aL_sA, aL_sM, gI_em, gI_emx, gI_pu, gI_wh]
                  refine ⟨fun h31 => absurd h31 (by decide), fun h31 => ?_⟩
                  clear h31
                  apply hB
                  dsimp only [rgo, rfd, Bnamed, Nat.beq, rwp, rst, lv_args, rlk, rs1, rs2, rdl, rky, rct, rcs, rcd, rno, rsw, Value.category, List.filter, List.take, List.drop, List.reverse, List.reverseAux, List.cons_append, List.nil_append, Option.toList, Int.toNat, Int.reduceToNat, if_pos, if_neg, reduceIte, ↓reduceIte, Nat.reduceAdd, Nat.reduceEqDiff, Nat.reduceBEq, beq_self_eq_true, Bool.not_true, Bool.not_false, Bool.and_true, Bool.and_false, Bool.true_and, Bool.false_and, gI_sI, gI_sL, gI_sA, gI_sM, gL_sI, gL_sL, gL_sA, gL_sM, aI_sI, aI_sL, aI_sA, aI_sM, aL_sI, aL_sL, aL_sA, aL_sM, gI_em, gI_emx, gI_pu, gI_wh, Bnamed_0, Bnamed_12, Bnamed_14, Bnamed_18, Bnamed_29, Bnamed_46, Bnamed_53, Bnamed_55, Bnamed_61, Bnamed_74, Bnamed_88, Bnamed_97, Bnamed_104, Bnamed_111, Bnamed_113, Bnamed_130, Bnamed_136, Bnamed_141, Bnamed_151, Bnamed_161, Bnamed_184, Bnamed_186, Bnamed_213, oi_0, oi_1, oi_16, oi_2, oi_3, oi_309, oi_310, oi_4, oi_40, oi_400, oi_41, oi_5, oi_61, P_closeCall, P_emit, P_emitExp, P_enter, P_isSetAt, P_isSign, P_push, P_take, P_wait, P_whole]; try dsimp only
                  refine ⟨rfl, (by decide), (Or.inr rfl), fun w32 τ32 hq32 => ?_⟩
                  obtain ⟨rfl, rfl⟩ := hq32
                  dsimp only [Option.toList, List.cons_append, List.nil_append, Nat.beq, gI_sI, gI_sL, gI_sA, gI_sM, gL_sI, gL_sL, gL_sA, gL_sM, aI_sI, aI_sL, aI_sA, aI_sM, aL_sI, aL_sL, aL_sA, aL_sM, gI_em, gI_emx, gI_pu, gI_wh]
                  refine ⟨Or.inr rfl, ?_⟩
                  refine ⟨_, rfl, Or.inr ⟨rfl, fun σ0 hσ0 => Or.inl ⟨rfl, ?_, Or.inr rfl⟩, ?_⟩⟩
                  · have t1 := XI.take hσ0 (by assumption) rfl
                    have t2 := XI.take t1 (by assumption) rfl
                    exact XI.push0 (t2.weak (0 + 2) (0 + 1) ⟨by decide, by decide⟩ ⟨by decide, by decide⟩) 4 0 (gI σ 14) (Or.inr (Or.inr (Or.inr (Or.inl rfl)))) (by assumption) ⟨by lia, by lia⟩ ⟨fun _ => (by apply wn40 (by lia) (by lia); assumption), fun q => absurd q (by decide), fun q => absurd q (by decide)⟩ ⟨by decide, by decide⟩
                  · show gI σ 14 < gI σ 14 + 1 + 1
                    lia
                · dsimp only [Option.toList, List.cons_append, List.nil_append, Nat.beq, gI_sI, gI_sL, gI_sA, gI_sM, gL_sI, gL_sL, gL_sA, gL_sM, aI_sI, aI_sL, aI_sA, aI_sM, aL_sI, aL_sL, aL_sA, aL_sM, gI_em, gI_emx, gI_pu, gI_wh]
                  refine ⟨fun h33 => ?_, fun h33 => absurd h33 (by decide)⟩
                  clear h33
                  have hpush : ∀ σ0, XI σ0 σ [] 0 0 → XI σ0 (pu (sI (sI (sI σ 14 (gI σ 14 + 1)) 14 (gI σ 14 + 1 + 1)) 17 (gI σ 17 + 1)) 4 0 (gI σ 14)) [] 0 0 := by
                    intro σ0 hσ0
                    have t1 := XI.take hσ0 (by assumption) rfl
                    have t2 := XI.take t1 (by assumption) rfl
                    exact XI.push0 (t2.weak (0 + 2) (0 + 1) ⟨by decide, by decide⟩ ⟨by decide, by decide⟩) 4 0 (gI σ 14) (Or.inr (Or.inr (Or.inr (Or.inl rfl)))) (by assumption) ⟨by lia, by lia⟩ ⟨fun _ => (by apply wn40 (by lia) (by lia); assumption), fun q => absurd q (by decide), fun q => absurd q (by decide)⟩ ⟨by decide, by decide⟩
                  apply hB
                  dsimp only [rgo, rfd, Bnamed, Nat.beq, rwp, rst, lv_args, rlk, rs1, rs2, rdl, rky, rct, rcs, rcd, rno, rsw, Value.category, List.filter, List.take, List.drop, List.reverse, List.reverseAux, List.cons_append, List.nil_append, Option.toList, Int.toNat, Int.reduceToNat, if_pos, if_neg, reduceIte, ↓reduceIte, Nat.reduceAdd, Nat.reduceEqDiff, Nat.reduceBEq, beq_self_eq_true, Bool.not_true, Bool.not_false, Bool.and_true, Bool.and_false, Bool.true_and, Bool.false_and, gI_sI, gI_sL, gI_sA, gI_sM, gL_sI, gL_sL, gL_sA, gL_sM, aI_sI, aI_sL, aI_sA, aI_sM, aL_sI, aL_sL, aL_sA, aL_sM, gI_em, gI_emx, gI_pu, gI_wh, Bnamed_0, Bnamed_12, Bnamed_14, Bnamed_18, Bnamed_29, Bnamed_46, Bnamed_53, Bnamed_55, Bnamed_61, Bnamed_74, Bnamed_88, Bnamed_97, Bnamed_104, Bnamed_111, Bnamed_113, Bnamed_130, Bnamed_136, Bnamed_141, Bnamed_151, Bnamed_161, Bnamed_184, Bnamed_186, Bnamed_213, oi_0, oi_1, oi_16, oi_2, oi_3, oi_309, oi_310, oi_4, oi_40, oi_400, oi_41, oi_5, oi_61, P_closeCall, P_emit, P_emitExp, P_enter, P_isSetAt, P_isSign, P_push, P_take, P_wait, P_whole]; try dsimp only
                  refine ⟨rfl, (by decide), (⟨⟨σa, Or.inl (hpush σa hXa)⟩, by show 0 < gI σ 29 + 1; lia, by show upd _ _ _ (gI σ 29 + 1 - 1).toNatClampNeg = 4; rw [show gI σ 29 + 1 - 1 = gI σ 29 from by lia]; exact upd_eq⟩), fun w34 τ34 hq34 => ?_⟩
                  obtain ⟨r34, rfl, hq34⟩ := hq34
                  rcases hq34 with ⟨rfl, hf34⟩ | ⟨rfl, hx34, hw34, hp34⟩
                  · dsimp only [Option.toList, List.cons_append, List.nil_append, Nat.beq, gI_sI, gI_sL, gI_sA, gI_sM, gL_sI, gL_sL, gL_sA, gL_sM, aI_sI, aI_sL, aI_sA, aI_sM, aL_sI, aL_sL, aL_sA, aL_sM, gI_em, gI_emx, gI_pu, gI_wh]
                    refine ⟨Or.inl rfl, ?_⟩
                    exact ⟨_, rfl, Or.inl ⟨rfl, Fx.tr (by repeat (first | exact Fx.rf | refine Fx.a ?_ rfl | refine Fx.i ?_ rfl)) hf34⟩⟩
                  · dsimp only [Option.toList, List.cons_append, List.nil_append, Nat.beq, gI_sI, gI_sL, gI_sA, gI_sM, gL_sI, gL_sL, gL_sA, gL_sM, aI_sI, aI_sL, aI_sA, aI_sM, aL_sI, aL_sL, aL_sA, aL_sM, gI_em, gI_emx, gI_pu, gI_wh]
                    refine ⟨Or.inr rfl, ?_⟩
                    exact ⟨_, rfl, Or.inr ⟨rfl, fun σ0 hσ0 => Or.inr ⟨hw34, hx34 σ0 (Or.inl (hpush σ0 hσ0))⟩, by have hh : gI σ 14 + 1 + 1 < _ := hp34; lia⟩⟩
              · dsimp only [Option.toList, List.cons_append, List.nil_append, Nat.beq, gI_sI, gI_sL, gI_sA, gI_sM, gL_sI, gL_sL, gL_sA, gL_sM, aI_sI, aI_sL, aI_sA, aI_sM, aL_sI, aL_sL, aL_sA, aL_sM, gI_em, gI_emx, gI_pu, gI_wh]
                refine ⟨fun h35 => absurd h35 (by decide), fun h35 => ?_⟩
                clear h35
                apply hB
                dsimp only [rgo, rfd, Bnamed, Nat.beq, rwp, rst, lv_args, rlk, rs1, rs2, rdl, rky, rct, rcs, rcd, rno, rsw, Value.category, List.filter, List.take, List.drop, List.reverse, List.reverseAux, List.cons_append, List.nil_append, Option.toList, Int.toNat, Int.reduceToNat, if_pos, if_neg, reduceIte, ↓reduceIte, Nat.reduceAdd, Nat.reduceEqDiff, Nat.reduceBEq, beq_self_eq_true, Bool.not_true, Bool.not_false, Bool.and_true, Bool.and_false, Bool.true_and, Bool.false_and, gI_sI, gI_sL, gI_sA, gI_sM, gL_sI, gL_sL, gL_sA, gL_sM, aI_sI, aI_sL, aI_sA, aI_sM, aL_sI, aL_sL, aL_sA, aL_sM, gI_em, gI_emx, gI_pu, gI_wh, Bnamed_0, Bnamed_12, Bnamed_14, Bnamed_18, Bnamed_29, Bnamed_46, Bnamed_53, Bnamed_55, Bnamed_61, Bnamed_74, Bnamed_88, Bnamed_97, Bnamed_104, Bnamed_111, Bnamed_113, Bnamed_130, Bnamed_136, Bnamed_141, Bnamed_151, Bnamed_161, Bnamed_184, Bnamed_186, Bnamed_213, oi_0, oi_1, oi_16, oi_2, oi_3, oi_309, oi_310, oi_4, oi_40, oi_400, oi_41, oi_5, oi_61, P_closeCall, P_emit, P_emitExp, P_enter, P_isSetAt, P_isSign, P_push, P_take, P_wait, P_whole]; try dsimp only
                refine ⟨Or.inl rfl, ?_⟩
                exact ⟨_, rfl, Or.inl ⟨rfl, by repeat (first | exact Fx.rf | refine Fx.a ?_ rfl | refine Fx.i ?_ rfl)⟩⟩
            · dsimp only [Option.toList, List.cons_append, List.nil_append, Nat.beq, gI_sI, gI_sL, gI_sA, gI_sM, gL_sI, gL_sL, gL_sA, gL_sM, aI_sI, aI_sL, aI_sA, aI_sM, aL_sI, aL_sL, aL_sA, aL_sM, gI_em, gI_emx, gI_pu, gI_wh]
              refine ⟨fun h36 => ?_, fun h36 => absurd h36 (by decide)⟩
              clear h36
              apply hB
              dsimp only [rgo, rfd, Bnamed, Nat.beq, rwp, rst, lv_args, rlk, rs1, rs2, rdl, rky, rct, rcs, rcd, rno, rsw, Value.category, List.filter, List.take, List.drop, List.reverse, List.reverseAux, List.cons_append, List.nil_append, Option.toList, Int.toNat, Int.reduceToNat, if_pos, if_neg, reduceIte, ↓reduceIte, Nat.reduceAdd, Nat.reduceEqDiff, Nat.reduceBEq, beq_self_eq_true, Bool.not_true, Bool.not_false, Bool.and_true, Bool.and_false, Bool.true_and, Bool.false_and, gI_sI, gI_sL, gI_sA, gI_sM, gL_sI, gL_sL, gL_sA, gL_sM, aI_sI, aI_sL, aI_sA, aI_sM, aL_sI, aL_sL, aL_sA, aL_sM, gI_em, gI_emx, gI_pu, gI_wh, Bnamed_0, Bnamed_12, Bnamed_14, Bnamed_18, Bnamed_29, Bnamed_46, Bnamed_53, Bnamed_55, Bnamed_61, Bnamed_74, Bnamed_88, Bnamed_97, Bnamed_104, Bnamed_111, Bnamed_113, Bnamed_130, Bnamed_136, Bnamed_141, Bnamed_151, Bnamed_161, Bnamed_184, Bnamed_186, Bnamed_213, oi_0, oi_1, oi_16, oi_2, oi_3, oi_309, oi_310, oi_4, oi_40, oi_400, oi_41, oi_5, oi_61, P_closeCall, P_emit, P_emitExp, P_enter, P_isSetAt, P_isSign, P_push, P_take, P_wait, P_whole]; try dsimp only
              refine ⟨Or.inl rfl, ?_⟩
              exact ⟨_, rfl, Or.inl ⟨rfl, by repeat (first | exact Fx.rf | refine Fx.a ?_ rfl | refine Fx.i ?_ rfl)⟩⟩
        · apply hB
          dsimp only [rgo, rfd, Bnamed, Nat.beq, rwp, rst, lv_args, rlk, rs1, rs2, rdl, rky, rct, rcs, rcd, rno, rsw, Value.category, List.filter, List.take, List.drop, List.reverse, List.reverseAux, List.cons_append, List.nil_append, Option.toList, Int.toNat, Int.reduceToNat, if_pos, if_neg, reduceIte, ↓reduceIte, Nat.reduceAdd, Nat.reduceEqDiff, Nat.reduceBEq, beq_self_eq_true, Bool.not_true, Bool.not_false, Bool.and_true, Bool.and_false, Bool.true_and, Bool.false_and, gI_sI, gI_sL, gI_sA, gI_sM, gL_sI, gL_sL, gL_sA, gL_sM, aI_sI, aI_sL, aI_sA, aI_sM, aL_sI, aL_sL, aL_sA, aL_sM, gI_em, gI_emx, gI_pu, gI_wh, Bnamed_0, Bnamed_12, Bnamed_14, Bnamed_18, Bnamed_29, Bnamed_46, Bnamed_53, Bnamed_55, Bnamed_61, Bnamed_74, Bnamed_88, Bnamed_97, Bnamed_104, Bnamed_111, Bnamed_113, Bnamed_130, Bnamed_136, Bnamed_141, Bnamed_151, Bnamed_161, Bnamed_184, Bnamed_186, Bnamed_213, oi_0, oi_1, oi_16, oi_2, oi_3, oi_309, oi_310, oi_4, oi_40, oi_400, oi_41, oi_5, oi_61, P_closeCall, P_emit, P_emitExp, P_enter, P_isSetAt, P_isSign, P_push, P_take, P_wait, P_whole]; try dsimp only
          refine ⟨rfl, rfl, (by decide), (⟨by lia, by lia⟩), fun w37 τ37 hq37 => ?_⟩
          obtain ⟨r37, rfl, hr37, e37⟩ := hq37
          obtain rfl := e37.symm
          rcases hr37 with rfl | ⟨rfl, hw37⟩
          · dsimp only [Option.toList, List.cons_append, List.nil_append, Nat.beq, gI_sI, gI_sL, gI_sA, gI_sM, gL_sI, gL_sL, gL_sA, gL_sM, aI_sI, aI_sL, aI_sA, aI_sM, aL_sI, aL_sL, aL_sA, aL_sM, gI_em, gI_emx, gI_pu, gI_wh]
            refine ⟨fun h38 => ?_, fun h38 => absurd h38 (by decide)⟩
            clear h38
            apply hB
            dsimp only [rgo, rfd, Bnamed, Nat.beq, rwp, rst, lv_args, rlk, rs1, rs2, rdl, rky, rct, rcs, rcd, rno, rsw, Value.category, List.filter, List.take, List.drop, List.reverse, List.reverseAux, List.cons_append, List.nil_append, Option.toList, Int.toNat, Int.reduceToNat, if_pos, if_neg, reduceIte, ↓reduceIte, Nat.reduceAdd, Nat.reduceEqDiff, Nat.reduceBEq, beq_self_eq_true, Bool.not_true, Bool.not_false, Bool.and_true, Bool.and_false, Bool.true_and, Bool.false_and, gI_sI, gI_sL, gI_sA, gI_sM, gL_sI, gL_sL, gL_sA, gL_sM, aI_sI, aI_sL, aI_sA, aI_sM, aL_sI, aL_sL, aL_sA, aL_sM, gI_em, gI_emx, gI_pu, gI_wh, Bnamed_0, Bnamed_12, Bnamed_14, Bnamed_18, Bnamed_29, Bnamed_46, Bnamed_53, Bnamed_55, Bnamed_61, Bnamed_74, Bnamed_88, Bnamed_97, Bnamed_104, Bnamed_111, Bnamed_113, Bnamed_130, Bnamed_136, Bnamed_141, Bnamed_151, Bnamed_161, Bnamed_184, Bnamed_186, Bnamed_213, oi_0, oi_1, oi_16, oi_2, oi_3, oi_309, oi_310, oi_4, oi_40, oi_400, oi_41, oi_5, oi_61, P_closeCall, P_emit, P_emitExp, P_enter, P_isSetAt, P_isSign, P_push, P_take, P_wait, P_whole]; try dsimp only
            refine ⟨rfl, (by decide), (⟨by lia, by lia⟩), fun w39 τ39 hq39 => ?_⟩
            obtain ⟨r39, rfl, hr39, e39⟩ := hq39
            obtain rfl := e39.symm
            rcases hr39 with rfl | ⟨rfl, hw39⟩
            · dsimp only [Option.toList, List.cons_append, List.nil_append, Nat.beq, gI_sI, gI_sL, gI_sA, gI_sM, gL_sI, gL_sL, gL_sA, gL_sM, aI_sI, aI_sL, aI_sA, aI_sM, aL_sI, aL_sL, aL_sA, aL_sM, gI_em, gI_emx, gI_pu, gI_wh]
              refine ⟨fun h40 => ?_, fun h40 => absurd h40 (by decide)⟩
              clear h40
              apply hB
              dsimp only [rgo, rfd, Bnamed, Nat.beq, rwp, rst, lv_args, rlk, rs1, rs2, rdl, rky, rct, rcs, rcd, rno, rsw, Value.category, List.filter, List.take, List.drop, List.reverse, List.reverseAux, List.cons_append, List.nil_append, Option.toList, Int.toNat, Int.reduceToNat, if_pos, if_neg, reduceIte, ↓reduceIte, Nat.reduceAdd, Nat.reduceEqDiff, Nat.reduceBEq, beq_self_eq_true, Bool.not_true, Bool.not_false, Bool.and_true, Bool.and_false, Bool.true_and, Bool.false_and, gI_sI, gI_sL, gI_sA, gI_sM, gL_sI, gL_sL, gL_sA, gL_sM, aI_sI, aI_sL, aI_sA, aI_sM, aL_sI, aL_sL, aL_sA, aL_sM, gI_em, gI_emx, gI_pu, gI_wh, Bnamed_0, Bnamed_12, Bnamed_14, Bnamed_18, Bnamed_29, Bnamed_46, Bnamed_53, Bnamed_55, Bnamed_61, Bnamed_74, Bnamed_88, Bnamed_97, Bnamed_104, Bnamed_111, Bnamed_113, Bnamed_130, Bnamed_136, Bnamed_141, Bnamed_151, Bnamed_161, Bnamed_184, Bnamed_186, Bnamed_213, oi_0, oi_1, oi_16, oi_2, oi_3, oi_309, oi_310, oi_4, oi_40, oi_400, oi_41, oi_5, oi_61, P_closeCall, P_emit, P_emitExp, P_enter, P_isSetAt, P_isSign, P_push, P_take, P_wait, P_whole]; try dsimp only
              refine ⟨rfl, (by decide), (⟨by lia, by lia⟩), fun w41 τ41 hq41 => ?_⟩
              obtain ⟨r41, rfl, hr41, e41⟩ := hq41
              obtain rfl := e41.symm
              rcases hr41 with rfl | ⟨rfl, hw41⟩
              · dsimp only [Option.toList, List.cons_append, List.nil_append, Nat.beq, gI_sI, gI_sL, gI_sA, gI_sM, gL_sI, gL_sL, gL_sA, gL_sM, aI_sI, aI_sL, aI_sA, aI_sM, aL_sI, aL_sL, aL_sA, aL_sM, gI_em, gI_emx, gI_pu, gI_wh]
                refine ⟨fun h42 => absurd h42 (by decide), fun h42 => ?_⟩
                clear h42
                apply hB
                dsimp only [rgo, rfd, Bnamed, Nat.beq, rwp, rst, lv_args, rlk, rs1, rs2, rdl, rky, rct, rcs, rcd, rno, rsw, Value.category, List.filter, List.take, List.drop, List.reverse, List.reverseAux, List.cons_append, List.nil_append, Option.toList, Int.toNat, Int.reduceToNat, if_pos, if_neg, reduceIte, ↓reduceIte, Nat.reduceAdd, Nat.reduceEqDiff, Nat.reduceBEq, beq_self_eq_true, Bool.not_true, Bool.not_false, Bool.and_true, Bool.and_false, Bool.true_and, Bool.false_and, gI_sI, gI_sL, gI_sA, gI_sM, gL_sI, gL_sL, gL_sA, gL_sM, aI_sI, aI_sL, aI_sA, aI_sM, aL_sI, aL_sL, aL_sA, aL_sM, gI_em, gI_emx, gI_pu, gI_wh, Bnamed_0, Bnamed_12, Bnamed_14, Bnamed_18, Bnamed_29, Bnamed_46, Bnamed_53, Bnamed_55, Bnamed_61, Bnamed_74, Bnamed_88, Bnamed_97, Bnamed_104, Bnamed_111, Bnamed_113, Bnamed_130, Bnamed_136, Bnamed_141, Bnamed_151, Bnamed_161, Bnamed_184, Bnamed_186, Bnamed_213, oi_0, oi_1, oi_16, oi_2, oi_3, oi_309, oi_310, oi_4, oi_40, oi_400, oi_41, oi_5, oi_61, P_closeCall, P_emit, P_emitExp, P_enter, P_isSetAt, P_isSign, P_push, P_take, P_wait, P_whole]; try dsimp only
                refine ⟨rfl, (by decide), (⟨by lia, by lia⟩), fun w43 τ43 hq43 => ?_⟩
                obtain ⟨r43, rfl, hr43, e43⟩ := hq43
                obtain rfl := e43.symm
                rcases hr43 with rfl | ⟨rfl, hw43⟩
                · dsimp only [Option.toList, List.cons_append, List.nil_append, Nat.beq, gI_sI, gI_sL, gI_sA, gI_sM, gL_sI, gL_sL, gL_sA, gL_sM, aI_sI, aI_sL, aI_sA, aI_sM, aL_sI, aL_sL, aL_sA, aL_sM, gI_em, gI_emx, gI_pu, gI_wh]
                  refine ⟨fun h44 => ?_, fun h44 => absurd h44 (by decide)⟩
                  clear h44
                  apply hB
                  dsimp only [rgo, rfd, Bnamed, Nat.beq, rwp, rst, lv_args, rlk, rs1, rs2, rdl, rky, rct, rcs, rcd, rno, rsw, Value.category, List.filter, List.take, List.drop, List.reverse, List.reverseAux, List.cons_append, List.nil_append, Option.toList, Int.toNat, Int.reduceToNat, if_pos, if_neg, reduceIte, ↓reduceIte, Nat.reduceAdd, Nat.reduceEqDiff, Nat.reduceBEq, beq_self_eq_true, Bool.not_true, Bool.not_false, Bool.and_true, Bool.and_false, Bool.true_and, Bool.false_and, gI_sI, gI_sL, gI_sA, gI_sM, gL_sI, gL_sL, gL_sA, gL_sM, aI_sI, aI_sL, aI_sA, aI_sM, aL_sI, aL_sL, aL_sA, aL_sM, gI_em, gI_emx, gI_pu, gI_wh, Bnamed_0, Bnamed_12, Bnamed_14, Bnamed_18, Bnamed_29, Bnamed_46, Bnamed_53, Bnamed_55, Bnamed_61, Bnamed_74, Bnamed_88, Bnamed_97, Bnamed_104, Bnamed_111, Bnamed_113, Bnamed_130, Bnamed_136, Bnamed_141, Bnamed_151, Bnamed_161, Bnamed_184, Bnamed_186, Bnamed_213, oi_0, oi_1, oi_16, oi_2, oi_3, oi_309, oi_310, oi_4, oi_40, oi_400, oi_41, oi_5, oi_61, P_closeCall, P_emit, P_emitExp, P_enter, P_isSetAt, P_isSign, P_push, P_take, P_wait, P_whole]; try dsimp only
                  refine ⟨rfl, (by decide), (⟨by lia, by lia⟩), fun w45 τ45 hq45 => ?_⟩
                  obtain ⟨rfl, rfl⟩ := hq45
                  dsimp only [Option.toList, List.cons_append, List.nil_append, Nat.beq, gI_sI, gI_sL, gI_sA, gI_sM, gL_sI, gL_sL, gL_sA, gL_sM, aI_sI, aI_sL, aI_sA, aI_sM, aL_sI, aL_sL, aL_sA, aL_sM, gI_em, gI_emx, gI_pu, gI_wh]
                  refine ⟨rfl, rfl, rfl, (by decide), (⟨by lia, by lia⟩), fun w46 τ46 hq46 => ?_⟩
                  obtain ⟨rfl, rfl⟩ := hq46
                  dsimp only [Option.toList, List.cons_append, List.nil_append, Nat.beq, gI_sI, gI_sL, gI_sA, gI_sM, gL_sI, gL_sL, gL_sA, gL_sM, aI_sI, aI_sL, aI_sA, aI_sM, aL_sI, aL_sL, aL_sA, aL_sM, gI_em, gI_emx, gI_pu, gI_wh]
                  refine ⟨Or.inr rfl, ?_⟩
                  refine ⟨_, rfl, Or.inr ⟨rfl, fun σ0 hσ0 => Or.inr ⟨hw0, ?_⟩, ?_⟩⟩
                  · have t1 := XI.take hσ0 (by assumption) rfl
                    exact XI.leaf (t1.weak (0 + 1) (0 + 1) ⟨by decide, by decide⟩ ⟨by decide, by decide⟩) 2 0 0 (gI σ 14) (gI σ 14) (gI σ 14) (Or.inr (Or.inl rfl)) ⟨by decide, by decide, by lia, by lia, by lia, by lia, True.intro, True.intro⟩ (fun q => absurd q (by decide)) ⟨by decide, by decide⟩
                  · show gI σ 14 < gI σ 14 + 1
                    lia
                · dsimp only [Option.toList, List.cons_append, List.nil_append, Nat.beq, gI_sI, gI_sL, gI_sA, gI_sM, gL_sI, gL_sL, gL_sA, gL_sM, aI_sI, aI_sL, aI_sA, aI_sM, aL_sI, aL_sL, aL_sA, aL_sM, gI_em, gI_emx, gI_pu, gI_wh]
                  refine ⟨fun h47 => absurd h47 (by decide), fun h47 => ?_⟩
                  clear h47
                  apply hB
                  dsimp only [rgo, rfd, Bnamed, Nat.beq, rwp, rst, lv_args, rlk, rs1, rs2, rdl, rky, rct, rcs, rcd, rno, rsw, Value.category, List.filter, List.take, List.drop, List.reverse, List.reverseAux, List.cons_append, List.nil_append, Option.toList, Int.toNat, Int.reduceToNat, if_pos, if_neg, reduceIte, ↓reduceIte, Nat.reduceAdd, Nat.reduceEqDiff, Nat.reduceBEq, beq_self_eq_true, Bool.not_true, Bool.not_false, Bool.and_true, Bool.and_false, Bool.true_and, Bool.false_and, gI_sI, gI_sL, gI_sA, gI_sM, gL_sI, gL_sL, gL_sA, gL_sM, aI_sI, aI_sL, aI_sA, aI_sM, aL_sI, aL_sL, aL_sA, aL_sM, gI_em, gI_emx, gI_pu, gI_wh, Bnamed_0, Bnamed_12, Bnamed_14, Bnamed_18, Bnamed_29, Bnamed_46, Bnamed_53, Bnamed_55, Bnamed_61, Bnamed_74, Bnamed_88, Bnamed_97, Bnamed_104, Bnamed_111, Bnamed_113, Bnamed_130, Bnamed_136, Bnamed_141, Bnamed_151, Bnamed_161, Bnamed_184, Bnamed_186, Bnamed_213, oi_0, oi_1, oi_16, oi_2, oi_3, oi_309, oi_310, oi_4, oi_40, oi_400, oi_41, oi_5, oi_61, P_closeCall, P_emit, P_emitExp, P_enter, P_isSetAt, P_isSign, P_push, P_take, P_wait, P_whole]; try dsimp only
                  refine ⟨rfl, rfl, rfl, (in_6 (by lia) (by lia)), rfl, rfl, (by decide), (⟨by lia, by lia⟩), fun w48 τ48 hq48 => ?_⟩
                  obtain ⟨r48, rfl, hq48⟩ := hq48
                  rcases hq48 with ⟨rfl, hp48, rfl⟩ | ⟨rfl, fa48, fb48, rfl⟩
                  · dsimp only [Option.toList, List.cons_append, List.nil_append, Nat.beq, gI_sI, gI_sL, gI_sA, gI_sM, gL_sI, gL_sL, gL_sA, gL_sM, aI_sI, aI_sL, aI_sA, aI_sM, aL_sI, aL_sL, aL_sA, aL_sM, gI_em, gI_emx, gI_pu, gI_wh]
                    try dsimp only [Option.toList, List.cons_append, List.nil_append, Nat.beq, gI_sI, gI_sL, gI_sA, gI_sM, gL_sI, gL_sL, gL_sA, gL_sM, aI_sI, aI_sL, aI_sA, aI_sM, aL_sI, aL_sL, aL_sA, aL_sM, gI_em, gI_emx, gI_pu, gI_wh] at hp48
                    refine ⟨fun h49 => ?_, fun h49 => absurd h49 (by decide)⟩
                    clear h49
                    apply hB
                    dsimp only [rgo, rfd, Bnamed, Nat.beq, rwp, rst, lv_args, rlk, rs1, rs2, rdl, rky, rct, rcs, rcd, rno, rsw, Value.category, List.filter, List.take, List.drop, List.reverse, List.reverseAux, List.cons_append, List.nil_append, Option.toList, Int.toNat, Int.reduceToNat, if_pos, if_neg, reduceIte, ↓reduceIte, Nat.reduceAdd, Nat.reduceEqDiff, Nat.reduceBEq, beq_self_eq_true, Bool.not_true, Bool.not_false, Bool.and_true, Bool.and_false, Bool.true_and, Bool.false_and, gI_sI, gI_sL, gI_sA, gI_sM, gL_sI, gL_sL, gL_sA, gL_sM, aI_sI, aI_sL, aI_sA, aI_sM, aL_sI, aL_sL, aL_sA, aL_sM, gI_em, gI_emx, gI_pu, gI_wh, Bnamed_0, Bnamed_12, Bnamed_14, Bnamed_18, Bnamed_29, Bnamed_46, Bnamed_53, Bnamed_55, Bnamed_61, Bnamed_74, Bnamed_88, Bnamed_97, Bnamed_104, Bnamed_111, Bnamed_113, Bnamed_130, Bnamed_136, Bnamed_141, Bnamed_151, Bnamed_161, Bnamed_184, Bnamed_186, Bnamed_213, oi_0, oi_1, oi_16, oi_2, oi_3, oi_309, oi_310, oi_4, oi_40, oi_400, oi_41, oi_5, oi_61, P_closeCall, P_emit, P_emitExp, P_enter, P_isSetAt, P_isSign, P_push, P_take, P_wait, P_whole]; try dsimp only
                    refine ⟨rfl, (by decide), (⟨by lia, by lia⟩), fun w50 τ50 hq50 => ?_⟩
                    obtain ⟨rfl, rfl⟩ := hq50
                    dsimp only [Option.toList, List.cons_append, List.nil_append, Nat.beq, gI_sI, gI_sL, gI_sA, gI_sM, gL_sI, gL_sL, gL_sA, gL_sM, aI_sI, aI_sL, aI_sA, aI_sM, aL_sI, aL_sL, aL_sA, aL_sM, gI_em, gI_emx, gI_pu, gI_wh]
                    refine ⟨rfl, rfl, rfl, (by decide), (⟨by lia, by lia⟩), fun w51 τ51 hq51 => ?_⟩
                    obtain ⟨rfl, rfl⟩ := hq51
                    dsimp only [Option.toList, List.cons_append, List.nil_append, Nat.beq, gI_sI, gI_sL, gI_sA, gI_sM, gL_sI, gL_sL, gL_sA, gL_sM, aI_sI, aI_sL, aI_sA, aI_sM, aL_sI, aL_sL, aL_sA, aL_sM, gI_em, gI_emx, gI_pu, gI_wh]
                    refine ⟨Or.inr rfl, ?_⟩
                    refine ⟨_, rfl, Or.inr ⟨rfl, fun σ0 hσ0 => Or.inr ⟨hw0, ?_⟩, ?_⟩⟩
                    · have t1 := XI.take hσ0 (by assumption) rfl
                      have t2 := XI.take t1 (by assumption) rfl
                      exact XI.leaf (t2.weak (0 + 1) (0 + 1) ⟨by decide, by decide⟩ ⟨by decide, by decide⟩) 3 _ 0 (gI σ 14) (gI σ 14) (gI σ 14 + 1) (Or.inr (Or.inr (Or.inl rfl))) ⟨by decide, by decide, by lia, by lia, by lia, by lia, True.intro, True.intro⟩ (fun q => absurd q (by decide)) ⟨by decide, by decide⟩
                    · show gI σ 14 < gI σ 14 + 1 + 1
                      lia
                  · dsimp only [Option.toList, List.cons_append, List.nil_append, Nat.beq, gI_sI, gI_sL, gI_sA, gI_sM, gL_sI, gL_sL, gL_sA, gL_sM, aI_sI, aI_sL, aI_sA, aI_sM, aL_sI, aL_sL, aL_sA, aL_sM, gI_em, gI_emx, gI_pu, gI_wh]
                    refine ⟨fun h52 => absurd h52 (by decide), fun h52 => ?_⟩
                    clear h52
                    apply hB
                    dsimp only [rgo, rfd, Bnamed, Nat.beq, rwp, rst, lv_args, rlk, rs1, rs2, rdl, rky, rct, rcs, rcd, rno, rsw, Value.category, List.filter, List.take, List.drop, List.reverse, List.reverseAux, List.cons_append, List.nil_append, Option.toList, Int.toNat, Int.reduceToNat, if_pos, if_neg, reduceIte, ↓reduceIte, Nat.reduceAdd, Nat.reduceEqDiff, Nat.reduceBEq, beq_self_eq_true, Bool.not_true, Bool.not_false, Bool.and_true, Bool.and_false, Bool.true_and, Bool.false_and, gI_sI, gI_sL, gI_sA, gI_sM, gL_sI, gL_sL, gL_sA, gL_sM, aI_sI, aI_sL, aI_sA, aI_sM, aL_sI, aL_sL, aL_sA, aL_sM, gI_em, gI_emx, gI_pu, gI_wh, Bnamed_0, Bnamed_12, Bnamed_14, Bnamed_18, Bnamed_29, Bnamed_46, Bnamed_53, Bnamed_55, Bnamed_61, Bnamed_74, Bnamed_88, Bnamed_97, Bnamed_104, Bnamed_111, Bnamed_113, Bnamed_130, Bnamed_136, Bnamed_141, Bnamed_151, Bnamed_161, Bnamed_184, Bnamed_186, Bnamed_213, oi_0, oi_1, oi_16, oi_2, oi_3, oi_309, oi_310, oi_4, oi_40, oi_400, oi_41, oi_5, oi_61, P_closeCall, P_emit, P_emitExp, P_enter, P_isSetAt, P_isSign, P_push, P_take, P_wait, P_whole]; try dsimp only
                    refine ⟨Or.inl rfl, ?_⟩
                    exact ⟨_, rfl, Or.inl ⟨rfl, by repeat (first | exact Fx.rf | refine Fx.a ?_ rfl | refine Fx.i ?_ rfl)⟩⟩
              · dsimp only [Option.toList, List.cons_append, List.nil_append, Nat.beq, gI_sI, gI_sL, gI_sA, gI_sM, gL_sI, gL_sL, gL_sA, gL_sM, aI_sI, aI_sL, aI_sA, aI_sM, aL_sI, aL_sL, aL_sA, aL_sM, gI_em, gI_emx, gI_pu, gI_wh]
                refine ⟨fun h53 => ?_, fun h53 => absurd h53 (by decide)⟩
                clear h53
                apply hB
                dsimp only [rgo, rfd, Bnamed, Nat.beq, rwp, rst, lv_args, rlk, rs1, rs2, rdl, rky, rct, rcs, rcd, rno, rsw, Value.category, List.filter, List.take, List.drop, List.reverse, List.reverseAux, List.cons_append, List.nil_append, Option.toList, Int.toNat, Int.reduceToNat, if_pos, if_neg, reduceIte, ↓reduceIte, Nat.reduceAdd, Nat.reduceEqDiff, Nat.reduceBEq, beq_self_eq_true, Bool.not_true, Bool.not_false, Bool.and_true, Bool.and_false, Bool.true_and, Bool.false_and, gI_sI, gI_sL, gI_sA, gI_sM, gL_sI, gL_sL, gL_sA, gL_sM, aI_sI, aI_sL, aI_sA, aI_sM, aL_sI, aL_sL, aL_sA, aL_sM, gI_em, gI_emx, gI_pu, gI_wh, Bnamed_0, Bnamed_12, Bnamed_14, Bnamed_18, Bnamed_29, Bnamed_46, Bnamed_53, Bnamed_55, Bnamed_61, Bnamed_74, Bnamed_88, Bnamed_97, Bnamed_104, Bnamed_111, Bnamed_113, Bnamed_130, Bnamed_136, Bnamed_141, Bnamed_151, Bnamed_161, Bnamed_184, Bnamed_186, Bnamed_213, oi_0, oi_1, oi_16, oi_2, oi_3, oi_309, oi_310, oi_4, oi_40, oi_400, oi_41, oi_5, oi_61, P_closeCall, P_emit, P_emitExp, P_enter, P_isSetAt, P_isSign, P_push, P_take, P_wait, P_whole]; try dsimp only
                refine ⟨rfl, rfl, rfl, (in_6 (by lia) (by lia)), rfl, rfl, (by decide), (⟨by lia, by lia⟩), fun w54 τ54 hq54 => ?_⟩
                obtain ⟨r54, rfl, hq54⟩ := hq54
                rcases hq54 with ⟨rfl, hp54, rfl⟩ | ⟨rfl, fa54, fb54, rfl⟩
                · dsimp only [Option.toList, List.cons_append, List.nil_append, Nat.beq, gI_sI, gI_sL, gI_sA, gI_sM, gL_sI, gL_sL, gL_sA, gL_sM, aI_sI, aI_sL, aI_sA, aI_sM, aL_sI, aL_sL, aL_sA, aL_sM, gI_em, gI_emx, gI_pu, gI_wh]
                  try dsimp only [Option.toList, List.cons_append, List.nil_append, Nat.beq, gI_sI, gI_sL, gI_sA, gI_sM, gL_sI, gL_sL, gL_sA, gL_sM, aI_sI, aI_sL, aI_sA, aI_sM, aL_sI, aL_sL, aL_sA, aL_sM, gI_em, gI_emx, gI_pu, gI_wh] at hp54
                  refine ⟨fun h55 => ?_, fun h55 => absurd h55 (by decide)⟩
                  clear h55
                  apply hB
                  dsimp only [rgo, rfd, Bnamed, Nat.beq, rwp, rst, lv_args, rlk, rs1, rs2, rdl, rky, rct, rcs, rcd, rno, rsw, Value.category, List.filter, List.take, List.drop, List.reverse, List.reverseAux, List.cons_append, List.nil_append, Option.toList, Int.toNat, Int.reduceToNat, if_pos, if_neg, reduceIte, ↓reduceIte, Nat.reduceAdd, Nat.reduceEqDiff, Nat.reduceBEq, beq_self_eq_true, Bool.not_true, Bool.not_false, Bool.and_true, Bool.and_false, Bool.true_and, Bool.false_and, gI_sI, gI_sL, gI_sA, gI_sM, gL_sI, gL_sL, gL_sA, gL_sM, aI_sI, aI_sL, aI_sA, aI_sM, aL_sI, aL_sL, aL_sA, aL_sM, gI_em, gI_emx, gI_pu, gI_wh, Bnamed_0, Bnamed_12, Bnamed_14, Bnamed_18, Bnamed_29, Bnamed_46, Bnamed_53, Bnamed_55, Bnamed_61, Bnamed_74, Bnamed_88, Bnamed_97, Bnamed_104, Bnamed_111, Bnamed_113, Bnamed_130, Bnamed_136, Bnamed_141, Bnamed_151, Bnamed_161, Bnamed_184, Bnamed_186, Bnamed_213, oi_0, oi_1, oi_16, oi_2, oi_3, oi_309, oi_310, oi_4, oi_40, oi_400, oi_41, oi_5, oi_61, P_closeCall, P_emit, P_emitExp, P_enter, P_isSetAt, P_isSign, P_push, P_take, P_wait, P_whole]; try dsimp only
                  refine ⟨rfl, (by decide), (⟨by lia, by lia⟩), fun w56 τ56 hq56 => ?_⟩
                  obtain ⟨rfl, rfl⟩ := hq56
                  dsimp only [Option.toList, List.cons_append, List.nil_append, Nat.beq, gI_sI, gI_sL, gI_sA, gI_sM, gL_sI, gL_sL, gL_sA, gL_sM, aI_sI, aI_sL, aI_sA, aI_sM, aL_sI, aL_sL, aL_sA, aL_sM, gI_em, gI_emx, gI_pu, gI_wh]
                  refine ⟨rfl, rfl, rfl, (by decide), (⟨by lia, by lia⟩), fun w57 τ57 hq57 => ?_⟩
                  obtain ⟨rfl, rfl⟩ := hq57
                  dsimp only [Option.toList, List.cons_append, List.nil_append, Nat.beq, gI_sI, gI_sL, gI_sA, gI_sM, gL_sI, gL_sL, gL_sA, gL_sM, aI_sI, aI_sL, aI_sA, aI_sM, aL_sI, aL_sL, aL_sA, aL_sM, gI_em, gI_emx, gI_pu, gI_wh]
                  refine ⟨Or.inr rfl, ?_⟩
                  refine ⟨_, rfl, Or.inr ⟨rfl, fun σ0 hσ0 => Or.inr ⟨hw0, ?_⟩, ?_⟩⟩
                  · have t1 := XI.take hσ0 (by assumption) rfl
                    have t2 := XI.take t1 (by assumption) rfl
                    exact XI.leaf (t2.weak (0 + 1) (0 + 1) ⟨by decide, by decide⟩ ⟨by decide, by decide⟩) 3 _ 0 (gI σ 14) (gI σ 14) (gI σ 14 + 1) (Or.inr (Or.inr (Or.inl rfl))) ⟨by decide, by decide, by lia, by lia, by lia, by lia, True.intro, True.intro⟩ (fun q => absurd q (by decide)) ⟨by decide, by decide⟩
                  · show gI σ 14 < gI σ 14 + 1 + 1
                    lia
                · dsimp only [Option.toList, List.cons_append, List.nil_append, Nat.beq, gI_sI, gI_sL, gI_sA, gI_sM, gL_sI, gL_sL, gL_sA, gL_sM, aI_sI, aI_sL, aI_sA, aI_sM, aL_sI, aL_sL, aL_sA, aL_sM, gI_em, gI_emx, gI_pu, gI_wh]
                  refine ⟨fun h58 => absurd h58 (by decide), fun h58 => ?_⟩
                  clear h58
                  apply hB
                  dsimp only [rgo, rfd, Bnamed, Nat.beq, rwp, rst, lv_args, rlk, rs1, rs2, rdl, rky, rct, rcs, rcd, rno, rsw, Value.category, List.filter, List.take, List.drop, List.reverse, List.reverseAux, List.cons_append, List.nil_append, Option.toList, Int.toNat, Int.reduceToNat, if_pos, if_neg, reduceIte, ↓reduceIte, Nat.reduceAdd, Nat.reduceEqDiff, Nat.reduceBEq, beq_self_eq_true, Bool.not_true, Bool.not_false, Bool.and_true, Bool.and_false, Bool.true_and, Bool.false_and, gI_sI, gI_sL, gI_sA, gI_sM, gL_sI, gL_sL, gL_sA, gL_sM, aI_sI, aI_sL, aI_sA, aI_sM, aL_sI, aL_sL, aL_sA, aL_sM, gI_em, gI_emx, gI_pu, gI_wh, Bnamed_0, Bnamed_12, Bnamed_14, Bnamed_18, Bnamed_29, Bnamed_46, Bnamed_53, Bnamed_55, Bnamed_61, Bnamed_74, Bnamed_88, Bnamed_97, Bnamed_104, Bnamed_111, Bnamed_113, Bnamed_130, Bnamed_136, Bnamed_141, Bnamed_151, Bnamed_161, Bnamed_184, Bnamed_186, Bnamed_213, oi_0, oi_1, oi_16, oi_2, oi_3, oi_309, oi_310, oi_4, oi_40, oi_400, oi_41, oi_5, oi_61, P_closeCall, P_emit, P_emitExp, P_enter, P_isSetAt, P_isSign, P_push, P_take, P_wait, P_whole]; try dsimp only
                  refine ⟨Or.inl rfl, ?_⟩
                  exact ⟨_, rfl, Or.inl ⟨rfl, by repeat (first | exact Fx.rf | refine Fx.a ?_ rfl | refine Fx.i ?_ rfl)⟩⟩
            · dsimp only [Option.toList, List.cons_append, List.nil_append, Nat.beq, gI_sI, gI_sL, gI_sA, gI_sM, gL_sI, gL_sL, gL_sA, gL_sM, aI_sI, aI_sL, aI_sA, aI_sM, aL_sI, aL_sL, aL_sA, aL_sM, gI_em, gI_emx, gI_pu, gI_wh]
              refine ⟨fun h59 => absurd h59 (by decide), fun h59 => ?_⟩
              clear h59
              apply hB
              dsimp only [rgo, rfd, Bnamed, Nat.beq, rwp, rst, lv_args, rlk, rs1, rs2, rdl, rky, rct, rcs, rcd, rno, rsw, Value.category, List.filter, List.take, List.drop, List.reverse, List.reverseAux, List.cons_append, List.nil_append, Option.toList, Int.toNat, Int.reduceToNat, if_pos, if_neg, reduceIte, ↓reduceIte, Nat.reduceAdd, Nat.reduceEqDiff, Nat.reduceBEq, beq_self_eq_true, Bool.not_true, Bool.not_false, Bool.and_true, Bool.and_false, Bool.true_and, Bool.false_and, gI_sI, gI_sL, gI_sA, gI_sM, gL_sI, gL_sL, gL_sA, gL_sM, aI_sI, aI_sL, aI_sA, aI_sM, aL_sI, aL_sL, aL_sA, aL_sM, gI_em, gI_emx, gI_pu, gI_wh, Bnamed_0, Bnamed_12, Bnamed_14, Bnamed_18, Bnamed_29, Bnamed_46, Bnamed_53, Bnamed_55, Bnamed_61, Bnamed_74, Bnamed_88, Bnamed_97, Bnamed_104, Bnamed_111, Bnamed_113, Bnamed_130, Bnamed_136, Bnamed_141, Bnamed_151, Bnamed_161, Bnamed_184, Bnamed_186, Bnamed_213, oi_0, oi_1, oi_16, oi_2, oi_3, oi_309, oi_310, oi_4, oi_40, oi_400, oi_41, oi_5, oi_61, P_closeCall, P_emit, P_emitExp, P_enter, P_isSetAt, P_isSign, P_push, P_take, P_wait, P_whole]; try dsimp only
              refine ⟨rfl, (by decide), (⟨by lia, by lia⟩), fun w60 τ60 hq60 => ?_⟩
              obtain ⟨r60, rfl, hq60⟩ := hq60
              rcases hq60 with ⟨rfl, hp60, rfl⟩ | ⟨rfl, fa60, fb60, rfl⟩
              · dsimp only [Option.toList, List.cons_append, List.nil_append, Nat.beq, gI_sI, gI_sL, gI_sA, gI_sM, gL_sI, gL_sL, gL_sA, gL_sM, aI_sI, aI_sL, aI_sA, aI_sM, aL_sI, aL_sL, aL_sA, aL_sM, gI_em, gI_emx, gI_pu, gI_wh]
                try dsimp only [Option.toList, List.cons_append, List.nil_append, Nat.beq, gI_sI, gI_sL, gI_sA, gI_sM, gL_sI, gL_sL, gL_sA, gL_sM, aI_sI, aI_sL, aI_sA, aI_sM, aL_sI, aL_sL, aL_sA, aL_sM, gI_em, gI_emx, gI_pu, gI_wh] at hp60
                refine ⟨fun h61 => absurd h61 (by decide), fun h61 => ?_⟩
                clear h61
                apply hB
                dsimp only [rgo, rfd, Bnamed, Nat.beq, rwp, rst, lv_args, rlk, rs1, rs2, rdl, rky, rct, rcs, rcd, rno, rsw, Value.category, List.filter, List.take, List.drop, List.reverse, List.reverseAux, List.cons_append, List.nil_append, Option.toList, Int.toNat, Int.reduceToNat, if_pos, if_neg, reduceIte, ↓reduceIte, Nat.reduceAdd, Nat.reduceEqDiff, Nat.reduceBEq, beq_self_eq_true, Bool.not_true, Bool.not_false, Bool.and_true, Bool.and_false, Bool.true_and, Bool.false_and, gI_sI, gI_sL, gI_sA, gI_sM, gL_sI, gL_sL, gL_sA, gL_sM, aI_sI, aI_sL, aI_sA, aI_sM, aL_sI, aL_sL, aL_sA, aL_sM, gI_em, gI_emx, gI_pu, gI_wh, Bnamed_0, Bnamed_12, Bnamed_14, Bnamed_18, Bnamed_29, Bnamed_46, Bnamed_53, Bnamed_55, Bnamed_61, Bnamed_74, Bnamed_88, Bnamed_97, Bnamed_104, Bnamed_111, Bnamed_113, Bnamed_130, Bnamed_136, Bnamed_141, Bnamed_151, Bnamed_161, Bnamed_184, Bnamed_186, Bnamed_213, oi_0, oi_1, oi_16, oi_2, oi_3, oi_309, oi_310, oi_4, oi_40, oi_400, oi_41, oi_5, oi_61, P_closeCall, P_emit, P_emitExp, P_enter, P_isSetAt, P_isSign, P_push, P_take, P_wait, P_whole]; try dsimp only
                refine ⟨rfl, (by decide), (⟨by lia, by lia, by lia, by lia⟩), fun w62 τ62 hq62 => ?_⟩
                obtain ⟨r62, rfl, hq62⟩ := hq62
                rcases hq62 with ⟨rfl, hd62, rfl⟩ | ⟨rfl, fa62, fb62, fc62, rfl⟩
                · dsimp only [Option.toList, List.cons_append, List.nil_append, Nat.beq, gI_sI, gI_sL, gI_sA, gI_sM, gL_sI, gL_sL, gL_sA, gL_sM, aI_sI, aI_sL, aI_sA, aI_sM, aL_sI, aL_sL, aL_sA, aL_sM, gI_em, gI_emx, gI_pu, gI_wh]
                  try dsimp only [Option.toList, List.cons_append, List.nil_append, Nat.beq, gI_sI, gI_sL, gI_sA, gI_sM, gL_sI, gL_sL, gL_sA, gL_sM, aI_sI, aI_sL, aI_sA, aI_sM, aL_sI, aL_sL, aL_sA, aL_sM, gI_em, gI_emx, gI_pu, gI_wh] at hd62
                  refine ⟨fun h63 => ?_, fun h63 => absurd h63 (by decide)⟩
                  clear h63
                  apply hB
                  dsimp only [rgo, rfd, Bnamed, Nat.beq, rwp, rst, lv_args, rlk, rs1, rs2, rdl, rky, rct, rcs, rcd, rno, rsw, Value.category, List.filter, List.take, List.drop, List.reverse, List.reverseAux, List.cons_append, List.nil_append, Option.toList, Int.toNat, Int.reduceToNat, if_pos, if_neg, reduceIte, ↓reduceIte, Nat.reduceAdd, Nat.reduceEqDiff, Nat.reduceBEq, beq_self_eq_true, Bool.not_true, Bool.not_false, Bool.and_true, Bool.and_false, Bool.true_and, Bool.false_and, gI_sI, gI_sL, gI_sA, gI_sM, gL_sI, gL_sL, gL_sA, gL_sM, aI_sI, aI_sL, aI_sA, aI_sM, aL_sI, aL_sL, aL_sA, aL_sM, gI_em, gI_emx, gI_pu, gI_wh, Bnamed_0, Bnamed_12, Bnamed_14, Bnamed_18, Bnamed_29, Bnamed_46, Bnamed_53, Bnamed_55, Bnamed_61, Bnamed_74, Bnamed_88, Bnamed_97, Bnamed_104, Bnamed_111, Bnamed_113, Bnamed_130, Bnamed_136, Bnamed_141, Bnamed_151, Bnamed_161, Bnamed_184, Bnamed_186, Bnamed_213, oi_0, oi_1, oi_16, oi_2, oi_3, oi_309, oi_310, oi_4, oi_40, oi_400, oi_41, oi_5, oi_61, P_closeCall, P_emit, P_emitExp, P_enter, P_isSetAt, P_isSign, P_push, P_take, P_wait, P_whole]; try dsimp only
                  refine ⟨rfl, (by decide), (⟨by lia, by lia⟩), fun w64 τ64 hq64 => ?_⟩
                  obtain ⟨rfl, rfl⟩ := hq64
                  dsimp only [Option.toList, List.cons_append, List.nil_append, Nat.beq, gI_sI, gI_sL, gI_sA, gI_sM, gL_sI, gL_sL, gL_sA, gL_sM, aI_sI, aI_sL, aI_sA, aI_sM, aL_sI, aL_sL, aL_sA, aL_sM, gI_em, gI_emx, gI_pu, gI_wh]
                  refine ⟨rfl, (by decide), (⟨by lia, by lia⟩), fun w65 τ65 hq65 => ?_⟩
                  obtain ⟨r65, rfl, hr65, e65⟩ := hq65
                  obtain rfl := e65.symm
                  rcases hr65 with rfl | ⟨rfl, hw65⟩
                  · dsimp only [Option.toList, List.cons_append, List.nil_append, Nat.beq, gI_sI, gI_sL, gI_sA, gI_sM, gL_sI, gL_sL, gL_sA, gL_sM, aI_sI, aI_sL, aI_sA, aI_sM, aL_sI, aL_sL, aL_sA, aL_sM, gI_em, gI_emx, gI_pu, gI_wh]
                    refine ⟨fun h66 => absurd h66 (by decide), fun h66 => ?_⟩
                    clear h66
                    apply hB
                    dsimp only [rgo, rfd, Bnamed, Nat.beq, rwp, rst, lv_args, rlk, rs1, rs2, rdl, rky, rct, rcs, rcd, rno, rsw, Value.category, List.filter, List.take, List.drop, List.reverse, List.reverseAux, List.cons_append, List.nil_append, Option.toList, Int.toNat, Int.reduceToNat, if_pos, if_neg, reduceIte, ↓reduceIte, Nat.reduceAdd, Nat.reduceEqDiff, Nat.reduceBEq, beq_self_eq_true, Bool.not_true, Bool.not_false, Bool.and_true, Bool.and_false, Bool.true_and, Bool.false_and, gI_sI, gI_sL, gI_sA, gI_sM, gL_sI, gL_sL, gL_sA, gL_sM, aI_sI, aI_sL, aI_sA, aI_sM, aL_sI, aL_sL, aL_sA, aL_sM, gI_em, gI_emx, gI_pu, gI_wh, Bnamed_0, Bnamed_12, Bnamed_14, Bnamed_18, Bnamed_29, Bnamed_46, Bnamed_53, Bnamed_55, Bnamed_61, Bnamed_74, Bnamed_88, Bnamed_97, Bnamed_104, Bnamed_111, Bnamed_113, Bnamed_130, Bnamed_136, Bnamed_141, Bnamed_151, Bnamed_161, Bnamed_184, Bnamed_186, Bnamed_213, oi_0, oi_1, oi_16, oi_2, oi_3, oi_309, oi_310, oi_4, oi_40, oi_400, oi_41, oi_5, oi_61, P_closeCall, P_emit, P_emitExp, P_enter, P_isSetAt, P_isSign, P_push, P_take, P_wait, P_whole]; try dsimp only
                    refine ⟨rfl, (by decide), (Or.inr rfl), fun w67 τ67 hq67 => ?_⟩
                    obtain ⟨rfl, rfl⟩ := hq67
                    dsimp only [Option.toList, List.cons_append, List.nil_append, Nat.beq, gI_sI, gI_sL, gI_sA, gI_sM, gL_sI, gL_sL, gL_sA, gL_sM, aI_sI, aI_sL, aI_sA, aI_sM, aL_sI, aL_sL, aL_sA, aL_sM, gI_em, gI_emx, gI_pu, gI_wh]
                    refine ⟨Or.inr rfl, ?_⟩
                    refine ⟨_, rfl, Or.inr ⟨rfl, fun σ0 hσ0 => Or.inl ⟨rfl, ?_, Or.inr rfl⟩, ?_⟩⟩
                    · have t1 := XI.take hσ0 (by assumption) rfl
                      have t2 := XI.take t1 (by assumption) rfl
                      exact XI.push0 (t2.weak (0 + 2) (0 + 1) ⟨by decide, by decide⟩ ⟨by decide, by decide⟩) 4 0 (gI σ 14) (Or.inr (Or.inr (Or.inr (Or.inl rfl)))) (by assumption) ⟨by lia, by lia⟩ ⟨fun _ => (by apply wn40 (by lia) (by lia); assumption), fun q => absurd q (by decide), fun q => absurd q (by decide)⟩ ⟨by decide, by decide⟩
                    · show gI σ 14 < gI σ 14 + 1 + 1
                      lia
                  · dsimp only [Option.toList, List.cons_append, List.nil_append, Nat.beq, gI_sI, gI_sL, gI_sA, gI_sM, gL_sI, gL_sL, gL_sA, gL_sM, aI_sI, aI_sL, aI_sA, aI_sM, aL_sI, aL_sL, aL_sA, aL_sM, gI_em, gI_emx, gI_pu, gI_wh]
                    refine ⟨fun h68 => ?_, fun h68 => absurd h68 (by decide)⟩
                    clear h68
                    have hpush : ∀ σ0, XI σ0 σ [] 0 0 → XI σ0 (pu (sI (sI (sI σ 14 (gI σ 14 + 1)) 14 (gI σ 14 + 1 + 1)) 17 (gI σ 17 + 1)) 4 0 (gI σ 14)) [] 0 0 := by
                      intro σ0 hσ0
                      have t1 := XI.take hσ0 (by assumption) rfl
                      have t2 := XI.take t1 (by assumption) rfl
                      exact XI.push0 (t2.weak (0 + 2) (0 + 1) ⟨by decide, by decide⟩ ⟨by decide, by decide⟩) 4 0 (gI σ 14) (Or.inr (Or.inr (Or.inr (Or.inl rfl)))) (by assumption) ⟨by lia, by lia⟩ ⟨fun _ => (by apply wn40 (by lia) (by lia); assumption), fun q => absurd q (by decide), fun q => absurd q (by decide)⟩ ⟨by decide, by decide⟩
                    apply hB
                    dsimp only [rgo, rfd, Bnamed, Nat.beq, rwp, rst, lv_args, rlk, rs1, rs2, rdl, rky, rct, rcs, rcd, rno, rsw, Value.category, List.filter, List.take, List.drop, List.reverse, List.reverseAux, List.cons_append, List.nil_append, Option.toList, Int.toNat, Int.reduceToNat, if_pos, if_neg, reduceIte, ↓reduceIte, Nat.reduceAdd, Nat.reduceEqDiff, Nat.reduceBEq, beq_self_eq_true, Bool.not_true, Bool.not_false, Bool.and_true, Bool.and_false, Bool.true_and, Bool.false_and, gI_sI, gI_sL, gI_sA, gI_sM, gL_sI, gL_sL, gL_sA, gL_sM, aI_sI, aI_sL, aI_sA, aI_sM, aL_sI, aL_sL, aL_sA, aL_sM, gI_em, gI_emx, gI_pu, gI_wh, Bnamed_0, Bnamed_12, Bnamed_14, Bnamed_18, Bnamed_29, Bnamed_46, Bnamed_53, Bnamed_55, Bnamed_61, Bnamed_74, Bnamed_88, Bnamed_97, Bnamed_104, Bnamed_111, Bnamed_113, Bnamed_130, Bnamed_136, Bnamed_141, Bnamed_151, Bnamed_161, Bnamed_184, Bnamed_186, Bnamed_213, oi_0, oi_1, oi_16, oi_2, oi_3, oi_309, oi_310, oi_4, oi_40, oi_400, oi_41, oi_5, oi_61, P_closeCall, P_emit, P_emitExp, P_enter, P_isSetAt, P_isSign, P_push, P_take, P_wait, P_whole]; try dsimp only
                    refine ⟨rfl, (by decide), (⟨⟨σa, Or.inl (hpush σa hXa)⟩, by show 0 < gI σ 29 + 1; lia, by show upd _ _ _ (gI σ 29 + 1 - 1).toNatClampNeg = 4; rw [show gI σ 29 + 1 - 1 = gI σ 29 from by lia]; exact upd_eq⟩), fun w69 τ69 hq69 => ?_⟩
                    obtain ⟨r69, rfl, hq69⟩ := hq69
                    rcases hq69 with ⟨rfl, hf69⟩ | ⟨rfl, hx69, hw69, hp69⟩
                    · dsimp only [Option.toList, List.cons_append, List.nil_append, Nat.beq, gI_sI, gI_sL, gI_sA, gI_sM, gL_sI, gL_sL, gL_sA, gL_sM, aI_sI, aI_sL, aI_sA, aI_sM, aL_sI, aL_sL, aL_sA, aL_sM, gI_em, gI_emx, gI_pu, gI_wh]
                      refine ⟨Or.inl rfl, ?_⟩
                      exact ⟨_, rfl, Or.inl ⟨rfl, Fx.tr (by repeat (first | exact Fx.rf | refine Fx.a ?_ rfl | refine Fx.i ?_ rfl)) hf69⟩⟩
                    · dsimp only [Option.toList, List.cons_append, List.nil_append, Nat.beq, gI_sI, gI_sL, gI_sA, gI_sM, gL_sI, gL_sL, gL_sA, gL_sM, aI_sI, aI_sL, aI_sA, aI_sM, aL_sI, aL_sL, aL_sA, aL_sM, gI_em, gI_emx, gI_pu, gI_wh]
                      refine ⟨Or.inr rfl, ?_⟩
                      exact ⟨_, rfl, Or.inr ⟨rfl, fun σ0 hσ0 => Or.inr ⟨hw69, hx69 σ0 (Or.inl (hpush σ0 hσ0))⟩, by have hh : gI σ 14 + 1 + 1 < _ := hp69; lia⟩⟩
                · dsimp only [Option.toList, List.cons_append, List.nil_append, Nat.beq, gI_sI, gI_sL, gI_sA, gI_sM, gL_sI, gL_sL, gL_sA, gL_sM, aI_sI, aI_sL, aI_sA, aI_sM, aL_sI, aL_sL, aL_sA, aL_sM, gI_em, gI_emx, gI_pu, gI_wh]
                  refine ⟨fun h70 => absurd h70 (by decide), fun h70 => ?_⟩
                  clear h70
                  apply hB
                  dsimp only [rgo, rfd, Bnamed, Nat.beq, rwp, rst, lv_args, rlk, rs1, rs2, rdl, rky, rct, rcs, rcd, rno, rsw, Value.category, List.filter, List.take, List.drop, List.reverse, List.reverseAux, List.cons_append, List.nil_append, Option.toList, Int.toNat, Int.reduceToNat, if_pos, if_neg, reduceIte, ↓reduceIte, Nat.reduceAdd, Nat.reduceEqDiff, Nat.reduceBEq, beq_self_eq_true, Bool.not_true, Bool.not_false, Bool.and_true, Bool.and_false, Bool.true_and, Bool.false_and, gI_sI, gI_sL, gI_sA, gI_sM, gL_sI, gL_sL, gL_sA, gL_sM, aI_sI, aI_sL, aI_sA, aI_sM, aL_sI, aL_sL, aL_sA, aL_sM, gI_em, gI_emx, gI_pu, gI_wh, Bnamed_0, Bnamed_12, Bnamed_14, Bnamed_18, Bnamed_29, Bnamed_46, Bnamed_53, Bnamed_55, Bnamed_61, Bnamed_74, Bnamed_88, Bnamed_97, Bnamed_104, Bnamed_111, Bnamed_113, Bnamed_130, Bnamed_136, Bnamed_141, Bnamed_151, Bnamed_161, Bnamed_184, Bnamed_186, Bnamed_213, oi_0, oi_1, oi_16, oi_2, oi_3, oi_309, oi_310, oi_4, oi_40, oi_400, oi_41, oi_5, oi_61, P_closeCall, P_emit, P_emitExp, P_enter, P_isSetAt, P_isSign, P_push, P_take, P_wait, P_whole]; try dsimp only
                  refine ⟨Or.inl rfl, ?_⟩
                  exact ⟨_, rfl, Or.inl ⟨rfl, by repeat (first | exact Fx.rf | refine Fx.a ?_ rfl | refine Fx.i ?_ rfl)⟩⟩
              · dsimp only [Option.toList, List.cons_append, List.nil_append, Nat.beq, gI_sI, gI_sL, gI_sA, gI_sM, gL_sI, gL_sL, gL_sA, gL_sM, aI_sI, aI_sL, aI_sA, aI_sM, aL_sI, aL_sL, aL_sA, aL_sM, gI_em, gI_emx, gI_pu, gI_wh]
                refine ⟨fun h71 => ?_, fun h71 => absurd h71 (by decide)⟩
                clear h71
                apply hB
                dsimp only [rgo, rfd, Bnamed, Nat.beq, rwp, rst, lv_args, rlk, rs1, rs2, rdl, rky, rct, rcs, rcd, rno, rsw, Value.category, List.filter, List.take, List.drop, List.reverse, List.reverseAux, List.cons_append, List.nil_append, Option.toList, Int.toNat, Int.reduceToNat, if_pos, if_neg, reduceIte, ↓reduceIte, Nat.reduceAdd, Nat.reduceEqDiff, Nat.reduceBEq, beq_self_eq_true, Bool.not_true, Bool.not_false, Bool.and_true, Bool.and_false, Bool.true_and, Bool.false_and, gI_sI, gI_sL, gI_sA, gI_sM, gL_sI, gL_sL, gL_sA, gL_sM, aI_sI, aI_sL, aI_sA, aI_sM, aL_sI, aL_sL, aL_sA, aL_sM, gI_em, gI_emx, gI_pu, gI_wh, Bnamed_0, Bnamed_12, Bnamed_14, Bnamed_18, Bnamed_29, Bnamed_46, Bnamed_53, Bnamed_55, Bnamed_61, Bnamed_74, Bnamed_88, Bnamed_97, Bnamed_104, Bnamed_111, Bnamed_113, Bnamed_130, Bnamed_136, Bnamed_141, Bnamed_151, Bnamed_161, Bnamed_184, Bnamed_186, Bnamed_213, oi_0, oi_1, oi_16, oi_2, oi_3, oi_309, oi_310, oi_4, oi_40, oi_400, oi_41, oi_5, oi_61, P_closeCall, P_emit, P_emitExp, P_enter, P_isSetAt, P_isSign, P_push, P_take, P_wait, P_whole]; try dsimp only
                refine ⟨Or.inl rfl, ?_⟩
                exact ⟨_, rfl, Or.inl ⟨rfl, by repeat (first | exact Fx.rf | refine Fx.a ?_ rfl | refine Fx.i ?_ rfl)⟩⟩
          · dsimp only [Option.toList, List.cons_append, List.nil_append, Nat.beq, gI_sI, gI_sL, gI_sA, gI_sM, gL_sI, gL_sL, gL_sA, gL_sM, aI_sI, aI_sL, aI_sA, aI_sM, aL_sI, aL_sL, aL_sA, aL_sM, gI_em, gI_emx, gI_pu, gI_wh]
            refine ⟨fun h72 => absurd h72 (by decide), fun h72 => ?_⟩
            clear h72
            apply hB
            dsimp only [rgo, rfd, Bnamed, Nat.beq, rwp, rst, lv_args, rlk, rs1, rs2, rdl, rky, rct, rcs, rcd, rno, rsw, Value.category, List.filter, List.take, List.drop, List.reverse, List.reverseAux, List.cons_append, List.nil_append, Option.toList, Int.toNat, Int.reduceToNat, if_pos, if_neg, reduceIte, ↓reduceIte, Nat.reduceAdd, Nat.reduceEqDiff, Nat.reduceBEq, beq_self_eq_true, Bool.not_true, Bool.not_false, Bool.and_true, Bool.and_false, Bool.true_and, Bool.false_and, gI_sI, gI_sL, gI_sA, gI_sM, gL_sI, gL_sL, gL_sA, gL_sM, aI_sI, aI_sL, aI_sA, aI_sM, aL_sI, aL_sL, aL_sA, aL_sM, gI_em, gI_emx, gI_pu, gI_wh, Bnamed_0, Bnamed_12, Bnamed_14, Bnamed_18, Bnamed_29, Bnamed_46, Bnamed_53, Bnamed_55, Bnamed_61, Bnamed_74, Bnamed_88, Bnamed_97, Bnamed_104, Bnamed_111, Bnamed_113, Bnamed_130, Bnamed_136, Bnamed_141, Bnamed_151, Bnamed_161, Bnamed_184, Bnamed_186, Bnamed_213, oi_0, oi_1, oi_16, oi_2, oi_3, oi_309, oi_310, oi_4, oi_40, oi_400, oi_41, oi_5, oi_61, P_closeCall, P_emit, P_emitExp, P_enter, P_isSetAt, P_isSign, P_push, P_take, P_wait, P_whole]; try dsimp only
            refine ⟨rfl, rfl, rfl, (in_6 (by lia) (by lia)), rfl, (by decide), (⟨by lia, by lia⟩), fun w73 τ73 hq73 => ?_⟩
            obtain ⟨r73, rfl, hq73⟩ := hq73
            rcases hq73 with ⟨rfl, hp73, rfl⟩ | ⟨rfl, fa73, fb73, rfl⟩
            · dsimp only [Option.toList, List.cons_append, List.nil_append, Nat.beq, gI_sI, gI_sL, gI_sA, gI_sM, gL_sI, gL_sL, gL_sA, gL_sM, aI_sI, aI_sL, aI_sA, aI_sM, aL_sI, aL_sL, aL_sA, aL_sM, gI_em, gI_emx, gI_pu, gI_wh]
              try dsimp only [Option.toList, List.cons_append, List.nil_append, Nat.beq, gI_sI, gI_sL, gI_sA, gI_sM, gL_sI, gL_sL, gL_sA, gL_sM, aI_sI, aI_sL, aI_sA, aI_sM, aL_sI, aL_sL, aL_sA, aL_sM, gI_em, gI_emx, gI_pu, gI_wh] at hp73
              refine ⟨fun h74 => absurd h74 (by decide), fun h74 => ?_⟩
              clear h74
              apply hB
              dsimp only [rgo, rfd, Bnamed, Nat.beq, rwp, rst, lv_args, rlk, rs1, rs2, rdl, rky, rct, rcs, rcd, rno, rsw, Value.category, List.filter, List.take, List.drop, List.reverse, List.reverseAux, List.cons_append, List.nil_append, Option.toList, Int.toNat, Int.reduceToNat, if_pos, if_neg, reduceIte, ↓reduceIte, Nat.reduceAdd, Nat.reduceEqDiff, Nat.reduceBEq, beq_self_eq_true, Bool.not_true, Bool.not_false, Bool.and_true, Bool.and_false, Bool.true_and, Bool.false_and, gI_sI, gI_sL, gI_sA, gI_sM, gL_sI, gL_sL, gL_sA, gL_sM, aI_sI, aI_sL, aI_sA, aI_sM, aL_sI, aL_sL, aL_sA, aL_sM, gI_em, gI_emx, gI_pu, gI_wh, Bnamed_0, Bnamed_12, Bnamed_14, Bnamed_18, Bnamed_29, Bnamed_46, Bnamed_53, Bnamed_55, Bnamed_61, Bnamed_74, Bnamed_88, Bnamed_97, Bnamed_104, Bnamed_111, Bnamed_113, Bnamed_130, Bnamed_136, Bnamed_141, Bnamed_151, Bnamed_161, Bnamed_184, Bnamed_186, Bnamed_213, oi_0, oi_1, oi_16, oi_2, oi_3, oi_309, oi_310, oi_4, oi_40, oi_400, oi_41, oi_5, oi_61, P_closeCall, P_emit, P_emitExp, P_enter, P_isSetAt, P_isSign, P_push, P_take, P_wait, P_whole]; try dsimp only
              refine ⟨rfl, (by decide), (⟨by lia, by lia, by lia, by lia⟩), fun w75 τ75 hq75 => ?_⟩
              obtain ⟨r75, rfl, hq75⟩ := hq75
              rcases hq75 with ⟨rfl, hd75, rfl⟩ | ⟨rfl, fa75, fb75, fc75, rfl⟩
              · dsimp only [Option.toList, List.cons_append, List.nil_append, Nat.beq, gI_sI, gI_sL, gI_sA, gI_sM, gL_sI, gL_sL, gL_sA, gL_sM, aI_sI, aI_sL, aI_sA, aI_sM, aL_sI, aL_sL, aL_sA, aL_sM, gI_em, gI_emx, gI_pu, gI_wh]
                try dsimp only [Option.toList, List.cons_append, List.nil_append, Nat.beq, gI_sI, gI_sL, gI_sA, gI_sM, gL_sI, gL_sL, gL_sA, gL_sM, aI_sI, aI_sL, aI_sA, aI_sM, aL_sI, aL_sL, aL_sA, aL_sM, gI_em, gI_emx, gI_pu, gI_wh] at hd75
                refine ⟨fun h76 => ?_, fun h76 => absurd h76 (by decide)⟩
                clear h76
                apply hB
                dsimp only [rgo, rfd, Bnamed, Nat.beq, rwp, rst, lv_args, rlk, rs1, rs2, rdl, rky, rct, rcs, rcd, rno, rsw, Value.category, List.filter, List.take, List.drop, List.reverse, List.reverseAux, List.cons_append, List.nil_append, Option.toList, Int.toNat, Int.reduceToNat, if_pos, if_neg, reduceIte, ↓reduceIte, Nat.reduceAdd, Nat.reduceEqDiff, Nat.reduceBEq, beq_self_eq_true, Bool.not_true, Bool.not_false, Bool.and_true, Bool.and_false, Bool.true_and, Bool.false_and, gI_sI, gI_sL, gI_sA, gI_sM, gL_sI, gL_sL, gL_sA, gL_sM, aI_sI, aI_sL, aI_sA, aI_sM, aL_sI, aL_sL, aL_sA, aL_sM, gI_em, gI_emx, gI_pu, gI_wh, Bnamed_0, Bnamed_12, Bnamed_14, Bnamed_18, Bnamed_29, Bnamed_46, Bnamed_53, Bnamed_55, Bnamed_61, Bnamed_74, Bnamed_88, Bnamed_97, Bnamed_104, Bnamed_111, Bnamed_113, Bnamed_130, Bnamed_136, Bnamed_141, Bnamed_151, Bnamed_161, Bnamed_184, Bnamed_186, Bnamed_213, oi_0, oi_1, oi_16, oi_2, oi_3, oi_309, oi_310, oi_4, oi_40, oi_400, oi_41, oi_5, oi_61, P_closeCall, P_emit, P_emitExp, P_enter, P_isSetAt, P_isSign, P_push, P_take, P_wait, P_whole]; try dsimp only
                refine ⟨fun h77 => ?_, fun h77 => ?_⟩
                · apply hB
                  dsimp only [rgo, rfd, Bnamed, Nat.beq, rwp, rst, lv_args, rlk, rs1, rs2, rdl, rky, rct, rcs, rcd, rno, rsw, Value.category, List.filter, List.take, List.drop, List.reverse, List.reverseAux, List.cons_append, List.nil_append, Option.toList, Int.toNat, Int.reduceToNat, if_pos, if_neg, reduceIte, ↓reduceIte, Nat.reduceAdd, Nat.reduceEqDiff, Nat.reduceBEq, beq_self_eq_true, Bool.not_true, Bool.not_false, Bool.and_true, Bool.and_false, Bool.true_and, Bool.false_and, gI_sI, gI_sL, gI_sA, gI_sM, gL_sI, gL_sL, gL_sA, gL_sM, aI_sI, aI_sL, aI_sA, aI_sM, aL_sI, aL_sL, aL_sA, aL_sM, gI_em, gI_emx, gI_pu, gI_wh, Bnamed_0, Bnamed_12, Bnamed_14, Bnamed_18, Bnamed_29, Bnamed_46, Bnamed_53, Bnamed_55, Bnamed_61, Bnamed_74, Bnamed_88, Bnamed_97, Bnamed_104, Bnamed_111, Bnamed_113, Bnamed_130, Bnamed_136, Bnamed_141, Bnamed_151, Bnamed_161, Bnamed_184, Bnamed_186, Bnamed_213, oi_0, oi_1, oi_16, oi_2, oi_3, oi_309, oi_310, oi_4, oi_40, oi_400, oi_41, oi_5, oi_61, P_closeCall, P_emit, P_emitExp, P_enter, P_isSetAt, P_isSign, P_push, P_take, P_wait, P_whole]; try dsimp only
                  refine ⟨rfl, (by decide), (⟨by lia, by lia⟩), fun w78 τ78 hq78 => ?_⟩
                  obtain ⟨rfl, rfl⟩ := hq78
                  dsimp only [Option.toList, List.cons_append, List.nil_append, Nat.beq, gI_sI, gI_sL, gI_sA, gI_sM, gL_sI, gL_sL, gL_sA, gL_sM, aI_sI, aI_sL, aI_sA, aI_sM, aL_sI, aL_sL, aL_sA, aL_sM, gI_em, gI_emx, gI_pu, gI_wh]
                  refine ⟨rfl, (by decide), (Or.inr rfl), fun w79 τ79 hq79 => ?_⟩
                  obtain ⟨rfl, rfl⟩ := hq79
                  dsimp only [Option.toList, List.cons_append, List.nil_append, Nat.beq, gI_sI, gI_sL, gI_sA, gI_sM, gL_sI, gL_sL, gL_sA, gL_sM, aI_sI, aI_sL, aI_sA, aI_sM, aL_sI, aL_sL, aL_sA, aL_sM, gI_em, gI_emx, gI_pu, gI_wh]
                  refine ⟨Or.inr rfl, ?_⟩
                  refine ⟨_, rfl, Or.inr ⟨rfl, fun σ0 hσ0 => Or.inl ⟨rfl, ?_, Or.inr rfl⟩, ?_⟩⟩
                  · have t1 := XI.take hσ0 (by assumption) rfl
                    have t2 := XI.take t1 (by assumption) rfl
                    exact XI.push0 (t2.weak (0 + 2) (0 + 1) ⟨by decide, by decide⟩ ⟨by decide, by decide⟩) 5 _ (gI σ 14) (Or.inr (Or.inr (Or.inr (Or.inr ⟨rfl, by assumption⟩)))) (by assumption) ⟨by lia, by lia⟩ ⟨fun q => absurd q (by decide), fun _ => (by apply wnS (by lia) (by lia); assumption), fun q => absurd q (by decide)⟩ ⟨by decide, by decide⟩
                  · show gI σ 14 < gI σ 14 + 1 + 1
                    lia
                · apply hB
                  dsimp only [rgo, rfd, Bnamed, Nat.beq, rwp, rst, lv_args, rlk, rs1, rs2, rdl, rky, rct, rcs, rcd, rno, rsw, Value.category, List.filter, List.take, List.drop, List.reverse, List.reverseAux, List.cons_append, List.nil_append, Option.toList, Int.toNat, Int.reduceToNat, if_pos, if_neg, reduceIte, ↓reduceIte, Nat.reduceAdd, Nat.reduceEqDiff, Nat.reduceBEq, beq_self_eq_true, Bool.not_true, Bool.not_false, Bool.and_true, Bool.and_false, Bool.true_and, Bool.false_and, gI_sI, gI_sL, gI_sA, gI_sM, gL_sI, gL_sL, gL_sA, gL_sM, aI_sI, aI_sL, aI_sA, aI_sM, aL_sI, aL_sL, aL_sA, aL_sM, gI_em, gI_emx, gI_pu, gI_wh, Bnamed_0, Bnamed_12, Bnamed_14, Bnamed_18, Bnamed_29, Bnamed_46, Bnamed_53, Bnamed_55, Bnamed_61, Bnamed_74, Bnamed_88, Bnamed_97, Bnamed_104, Bnamed_111, Bnamed_113, Bnamed_130, Bnamed_136, Bnamed_141, Bnamed_151, Bnamed_161, Bnamed_184, Bnamed_186, Bnamed_213, oi_0, oi_1, oi_16, oi_2, oi_3, oi_309, oi_310, oi_4, oi_40, oi_400, oi_41, oi_5, oi_61, P_closeCall, P_emit, P_emitExp, P_enter, P_isSetAt, P_isSign, P_push, P_take, P_wait, P_whole]; try dsimp only
                  refine ⟨rfl, (by decide), (⟨by lia, by lia⟩), fun w80 τ80 hq80 => ?_⟩
                  obtain ⟨rfl, rfl⟩ := hq80
                  dsimp only [Option.toList, List.cons_append, List.nil_append, Nat.beq, gI_sI, gI_sL, gI_sA, gI_sM, gL_sI, gL_sL, gL_sA, gL_sM, aI_sI, aI_sL, aI_sA, aI_sM, aL_sI, aL_sL, aL_sA, aL_sM, gI_em, gI_emx, gI_pu, gI_wh]
                  apply hB
                  dsimp only [rgo, rfd, Bnamed, Nat.beq, rwp, rst, lv_args, rlk, rs1, rs2, rdl, rky, rct, rcs, rcd, rno, rsw, Value.category, List.filter, List.take, List.drop, List.reverse, List.reverseAux, List.cons_append, List.nil_append, Option.toList, Int.toNat, Int.reduceToNat, if_pos, if_neg, reduceIte, ↓reduceIte, Nat.reduceAdd, Nat.reduceEqDiff, Nat.reduceBEq, beq_self_eq_true, Bool.not_true, Bool.not_false, Bool.and_true, Bool.and_false, Bool.true_and, Bool.false_and, gI_sI, gI_sL, gI_sA, gI_sM, gL_sI, gL_sL, gL_sA, gL_sM, aI_sI, aI_sL, aI_sA, aI_sM, aL_sI, aL_sL, aL_sA, aL_sM, gI_em, gI_emx, gI_pu, gI_wh, Bnamed_0, Bnamed_12, Bnamed_14, Bnamed_18, Bnamed_29, Bnamed_46, Bnamed_53, Bnamed_55, Bnamed_61, Bnamed_74, Bnamed_88, Bnamed_97, Bnamed_104, Bnamed_111, Bnamed_113, Bnamed_130, Bnamed_136, Bnamed_141, Bnamed_151, Bnamed_161, Bnamed_184, Bnamed_186, Bnamed_213, oi_0, oi_1, oi_16, oi_2, oi_3, oi_309, oi_310, oi_4, oi_40, oi_400, oi_41, oi_5, oi_61, P_closeCall, P_emit, P_emitExp, P_enter, P_isSetAt, P_isSign, P_push, P_take, P_wait, P_whole]; try dsimp only
                  refine ⟨rfl, (by decide), (⟨by lia, by lia⟩), fun w81 τ81 hq81 => ?_⟩
                  obtain ⟨rfl, rfl⟩ := hq81
                  dsimp only [Option.toList, List.cons_append, List.nil_append, Nat.beq, gI_sI, gI_sL, gI_sA, gI_sM, gL_sI, gL_sL, gL_sA, gL_sM, aI_sI, aI_sL, aI_sA, aI_sM, aL_sI, aL_sL, aL_sA, aL_sM, gI_em, gI_emx, gI_pu, gI_wh]
                  refine ⟨rfl, (by decide), (Or.inr rfl), fun w82 τ82 hq82 => ?_⟩
                  obtain ⟨rfl, rfl⟩ := hq82
                  dsimp only [Option.toList, List.cons_append, List.nil_append, Nat.beq, gI_sI, gI_sL, gI_sA, gI_sM, gL_sI, gL_sL, gL_sA, gL_sM, aI_sI, aI_sL, aI_sA, aI_sM, aL_sI, aL_sL, aL_sA, aL_sM, gI_em, gI_emx, gI_pu, gI_wh]
                  refine ⟨Or.inr rfl, ?_⟩
                  refine ⟨_, rfl, Or.inr ⟨rfl, fun σ0 hσ0 => Or.inl ⟨rfl, ?_, Or.inr rfl⟩, ?_⟩⟩
                  · have t1 := XI.take hσ0 (by assumption) rfl
                    have t2 := XI.take t1 (by assumption) rfl
                    exact XI.pusha (t2.weak (0 + 3) (0 + 2) ⟨by decide, by decide⟩ ⟨by decide, by decide⟩) _ (gI σ 14) 5 _ rfl (by assumption) (by assumption) ⟨by decide, by decide, by lia, by lia, by lia, by lia, True.intro, True.intro⟩ (by apply wnS (by lia) (by lia); assumption) ⟨by decide, by decide⟩
                  · show gI σ 14 < gI σ 14 + 1 + 1
                    lia
              · dsimp only [Option.toList, List.cons_append, List.nil_append, Nat.beq, gI_sI, gI_sL, gI_sA, gI_sM, gL_sI, gL_sL, gL_sA, gL_sM, aI_sI, aI_sL, aI_sA, aI_sM, aL_sI, aL_sL, aL_sA, aL_sM, gI_em, gI_emx, gI_pu, gI_wh]
                refine ⟨fun h83 => absurd h83 (by decide), fun h83 => ?_⟩
                clear h83
                apply hB
                dsimp only [rgo, rfd, Bnamed, Nat.beq, rwp, rst, lv_args, rlk, rs1, rs2, rdl, rky, rct, rcs, rcd, rno, rsw, Value.category, List.filter, List.take, List.drop, List.reverse, List.reverseAux, List.cons_append, List.nil_append, Option.toList, Int.toNat, Int.reduceToNat, if_pos, if_neg, reduceIte, ↓reduceIte, Nat.reduceAdd, Nat.reduceEqDiff, Nat.reduceBEq, beq_self_eq_true, Bool.not_true, Bool.not_false, Bool.and_true, Bool.and_false, Bool.true_and, Bool.false_and, gI_sI, gI_sL, gI_sA, gI_sM, gL_sI, gL_sL, gL_sA, gL_sM, aI_sI, aI_sL, aI_sA, aI_sM, aL_sI, aL_sL, aL_sA, aL_sM, gI_em, gI_emx, gI_pu, gI_wh, Bnamed_0, Bnamed_12, Bnamed_14, Bnamed_18, Bnamed_29, Bnamed_46, Bnamed_53, Bnamed_55, Bnamed_61, Bnamed_74, Bnamed_88, Bnamed_97, Bnamed_104, Bnamed_111, Bnamed_113, Bnamed_130, Bnamed_136, Bnamed_141, Bnamed_151, Bnamed_161, Bnamed_184, Bnamed_186, Bnamed_213, oi_0, oi_1, oi_16, oi_2, oi_3, oi_309, oi_310, oi_4, oi_40, oi_400, oi_41, oi_5, oi_61, P_closeCall, P_emit, P_emitExp, P_enter, P_isSetAt, P_isSign, P_push, P_take, P_wait, P_whole]; try dsimp only
                refine ⟨Or.inl rfl, ?_⟩
                exact ⟨_, rfl, Or.inl ⟨rfl, by repeat (first | exact Fx.rf | refine Fx.a ?_ rfl | refine Fx.i ?_ rfl)⟩⟩
            · dsimp only [Option.toList, List.cons_append, List.nil_append, Nat.beq, gI_sI, gI_sL, gI_sA, gI_sM, gL_sI, gL_sL, gL_sA, gL_sM, aI_sI, aI_sL, aI_sA, aI_sM, aL_sI, aL_sL, aL_sA, aL_sM, gI_em, gI_emx, gI_pu, gI_wh]
              refine ⟨fun h84 => ?_, fun h84 => absurd h84 (by decide)⟩
              clear h84
              apply hB
              dsimp only [rgo, rfd, Bnamed, Nat.beq, rwp, rst, lv_args, rlk, rs1, rs2, rdl, rky, rct, rcs, rcd, rno, rsw, Value.category, List.filter, List.take, List.drop, List.reverse, List.reverseAux, List.cons_append, List.nil_append, Option.toList, Int.toNat, Int.reduceToNat, if_pos, if_neg, reduceIte, ↓reduceIte, Nat.reduceAdd, Nat.reduceEqDiff, Nat.reduceBEq, beq_self_eq_true, Bool.not_true, Bool.not_false, Bool.and_true, Bool.and_false, Bool.true_and, Bool.false_and, gI_sI, gI_sL, gI_sA, gI_sM, gL_sI, gL_sL, gL_sA, gL_sM, aI_sI, aI_sL, aI_sA, aI_sM, aL_sI, aL_sL, aL_sA, aL_sM, gI_em, gI_emx, gI_pu, gI_wh, Bnamed_0, Bnamed_12, Bnamed_14, Bnamed_18, Bnamed_29, Bnamed_46, Bnamed_53, Bnamed_55, Bnamed_61, Bnamed_74, Bnamed_88, Bnamed_97, Bnamed_104, Bnamed_111, Bnamed_113, Bnamed_130, Bnamed_136, Bnamed_141, Bnamed_151, Bnamed_161, Bnamed_184, Bnamed_186, Bnamed_213, oi_0, oi_1, oi_16, oi_2, oi_3, oi_309, oi_310, oi_4, oi_40, oi_400, oi_41, oi_5, oi_61, P_closeCall, P_emit, P_emitExp, P_enter, P_isSetAt, P_isSign, P_push, P_take, P_wait, P_whole]; try dsimp only
              refine ⟨Or.inl rfl, ?_⟩
              exact ⟨_, rfl, Or.inl ⟨rfl, by repeat (first | exact Fx.rf | refine Fx.a ?_ rfl | refine Fx.i ?_ rfl)⟩⟩
      · dsimp only [Option.toList, List.cons_append, List.nil_append, Nat.beq, gI_sI, gI_sL, gI_sA, gI_sM, gL_sI, gL_sL, gL_sA, gL_sM, aI_sI, aI_sL, aI_sA, aI_sM, aL_sI, aL_sL, aL_sA, aL_sM, gI_em, gI_emx, gI_pu, gI_wh]
        refine ⟨fun h85 => absurd h85 (by decide), fun h85 => ?_⟩
        clear h85
        apply hB
        dsimp only [rgo, rfd, Bnamed, Nat.beq, rwp, rst, lv_args, rlk, rs1, rs2, rdl, rky, rct, rcs, rcd, rno, rsw, Value.category, List.filter, List.take, List.drop, List.reverse, List.reverseAux, List.cons_append, List.nil_append, Option.toList, Int.toNat, Int.reduceToNat, if_pos, if_neg, reduceIte, ↓reduceIte, Nat.reduceAdd, Nat.reduceEqDiff, Nat.reduceBEq, beq_self_eq_true, Bool.not_true, Bool.not_false, Bool.and_true, Bool.and_false, Bool.true_and, Bool.false_and, gI_sI, gI_sL, gI_sA, gI_sM, gL_sI, gL_sL, gL_sA, gL_sM, aI_sI, aI_sL, aI_sA, aI_sM, aL_sI, aL_sL, aL_sA, aL_sM, gI_em, gI_emx, gI_pu, gI_wh, Bnamed_0, Bnamed_12, Bnamed_14, Bnamed_18, Bnamed_29, Bnamed_46, Bnamed_53, Bnamed_55, Bnamed_61, Bnamed_74, Bnamed_88, Bnamed_97, Bnamed_104, Bnamed_111, Bnamed_113, Bnamed_130, Bnamed_136, Bnamed_141, Bnamed_151, Bnamed_161, Bnamed_184, Bnamed_186, Bnamed_213, oi_0, oi_1, oi_16, oi_2, oi_3, oi_309, oi_310, oi_4, oi_40, oi_400, oi_41, oi_5, oi_61, P_closeCall, P_emit, P_emitExp, P_enter, P_isSetAt, P_isSign, P_push, P_take, P_wait, P_whole]; try dsimp only
        refine ⟨Or.inl rfl, ?_⟩
        exact ⟨_, rfl, Or.inl ⟨rfl, by repeat (first | exact Fx.rf | refine Fx.a ?_ rfl | refine Fx.i ?_ rfl)⟩⟩
    next => exact hP.elim
theorem m_named (l : Launch) : RMet l 4 30 P_named Q_named := by
  refine RMet.by Bnamed [(31, P_closeCall, Q_closeCall), (20, P_emit, Q_emit), (21, P_emitExp, Q_emitExp), (19, P_enter, Q_enter), (24, P_isSetAt, Q_isSetAt), (14, P_isSign, Q_isSign), (25, P_push, Q_push), (17, P_take, Q_take), (28, P_wait, Q_wait), (26, P_whole, Q_whole)] ronamed okBnamed (ctc (m_closeCall l) (by decide) (ctc (m_emit l) (by decide) (ctc (m_emitExp l) (by decide) (ctc (m_enter l) (by decide) (ctc (m_isSetAt l) (by decide) (ctc (m_isSign l) (by decide) (ctc (m_push l) (by decide) (ctc (m_take l) (by decide) (ctc (m_wait l) (by decide) (ctc (m_whole l) (by decide) ct0)))))))))) ?_ b_named
  · intro As σ hP
    unfold P_named at hP
    split at hP
    next => exact Nat.le_of_ble_eq_true rfl
    next => exact hP.elim
set_option maxRecDepth 100000 in
theorem e_named (l : Launch) : RMetE l 4 30 P_named Q_named := by
  refine RMetE.by Bnamed [(31, P_closeCall, Q_closeCall), (20, P_emit, Q_emit), (21, P_emitExp, Q_emitExp), (19, P_enter, Q_enter), (24, P_isSetAt, Q_isSetAt), (14, P_isSign, Q_isSign), (25, P_push, Q_push), (17, P_take, Q_take), (28, P_wait, Q_wait), (26, P_whole, Q_whole)] rfl rfl ronamed okBnamed (ctEc (e_closeCall l) (by decide) (ctEc (e_emit l) (by decide) (ctEc (e_emitExp l) (by decide) (ctEc (e_enter l) (by decide) (ctEc (e_isSetAt l) (by decide) (ctEc (e_isSign l) (by decide) (ctEc (e_push l) (by decide) (ctEc (e_take l) (by decide) (ctEc (e_wait l) (by decide) (ctEc (e_whole l) (by decide) ctE0)))))))))) ?_ b_named
  · intro As σ hP
    unfold P_named at hP
    split at hP
    next => exact Nat.le_of_ble_eq_true rfl
    next => exact hP.elim
