theorem XI.top {σ0 σ : RS} {tp : List Nat} {k j : Int} (h : XI σ0 σ tp k j) (hp : 0 < gI σ 29) : ox (aI σ 25 (gI σ 29 - 1).toNatClampNeg) (aI σ 27 (gI σ 29 - 1).toNatClampNeg) (aI σ 28 (gI σ 29 - 1).toNatClampNeg) := by
  obtain ⟨L, d, hF, hC, hO, hV, -⟩ := h
  obtain ⟨L', d', hL, hd', hO', hox⟩ := hO.pop (σ' := sI σ 29 (gI σ 29 - 1)) hp rfl rfl rfl rfl rfl
  exact hox
theorem XI.w1 {σ0 σ : RS} {k j : Int} (h : XI σ0 σ [0] k j) : 1 ≤ gI σ 31 := by
  obtain ⟨L, d, hF, hC, hO, hV, -⟩ := h
  have h1 := t_nT hV.1
  rw [hV.2.1, wl_app] at h1
  have h2 : wl [0] = 1 := rfl
  apply t_le
  show (1 : Int) ≤ _
  omega
theorem XI.w2 {σ0 σ : RS} {k j : Int} (h : XI σ0 σ [0] k j) (hp : 0 < gI σ 29) (hs : aI σ 25 (gI σ 29 - 1).toNatClampNeg = 2) : 2 ≤ gI σ 31 := by
  obtain ⟨L, d, hF, hC, hO, hV, -⟩ := h
  obtain ⟨L', d', hL, hd', hO', hox⟩ := hO.pop (σ' := sI σ 29 (gI σ 29 - 1)) hp rfl rfl rfl rfl rfl
  have hs : aI σ 25 (nT (gI σ 29 - 1)) = 2 := hs
  rw [hs] at hL
  have h1 := t_nT hV.1
  rw [hV.2.1, wl_app, hL, wl_app] at h1
  have h2 : wl [0] = 1 := rfl
  have h3 : wl (oks 2 (aI σ 26 (nT (gI σ 29 - 1))) (aI σ 28 (nT (gI σ 29 - 1)))) = 1 := by
    show wl (if _ ∨ _ then [1] else [0]) = 1
    split <;> rfl
  apply t_le
  show (2 : Int) ≤ _
  omega
theorem XI.w3 {σ0 σ : RS} {k j : Int} (h : XI σ0 σ [0] k j) (hp : 0 < gI σ 29) (hs : aI σ 25 (gI σ 29 - 1).toNatClampNeg = 7) : 3 ≤ gI σ 31 := by
  obtain ⟨L, d, hF, hC, hO, hV, -⟩ := h
  obtain ⟨L', d', hL, hd', hO', hox⟩ := hO.pop (σ' := sI σ 29 (gI σ 29 - 1)) hp rfl rfl rfl rfl rfl
  have hs : aI σ 25 (nT (gI σ 29 - 1)) = 7 := hs
  rw [hs] at hL
  have h1 := t_nT hV.1
  rw [hV.2.1, wl_app, hL, wl_app] at h1
  have h2 : wl [0] = 1 := rfl
  have h3 : wl (oks 7 (aI σ 26 (nT (gI σ 29 - 1))) (aI σ 28 (nT (gI σ 29 - 1)))) = 2 := rfl
  apply t_le
  show (3 : Int) ≤ _
  omega
theorem XI.vf {σ0 σ : RS} {tp : List Nat} {k j : Int} (h : XI σ0 σ tp k j) {x : Int32} (h0 : 0 ≤ x) (hx : x < gI σ 31) : 0 ≤ aI σ 30 x.toNatClampNeg ∧ aI σ 30 x.toNatClampNeg ≤ 500 := by
  obtain ⟨L, d, hF, hC, hO, hV, -⟩ := h
  refine hV.2.2 _ ?_
  rw [← hV.2.1]
  exact nT_lt h0 hx
theorem XI.fx {σ0 σ : RS} {tp : List Nat} {k j : Int} (h : XI σ0 σ tp k j) : Fx σ0 σ := h.choose_spec.choose_spec.1
def P_strength : RP := fun As σ => match As with
  | [.int s] => True
  | _ => False
def Q_strength : RQ := fun As σ w τ => match As with
  | [.int s] => ∃ r : Int32, w = some (.int r) ∧ τ = σ
  | _ => False
set_option maxRecDepth 100000 in
set_option maxHeartbeats 4000000 in
theorem m_strength (l : Launch) : RMet l 1 22 P_strength Q_strength := by
  refine RMet.by Bstrength [] rostrength okBstrength ct0 ?_ ?_
  · intro As σ hP
    unfold P_strength at hP
    split at hP
    next => exact Nat.le_of_ble_eq_true rfl
    next => exact hP.elim
  · intro As σ hP G hB hW
    unfold P_strength at hP
    split at hP
    next s => 
      unfold Q_strength at hB
      dsimp only at hB
      repeat' first
        | apply And.intro
        | (rintro w τ ⟨r, rfl, hq, rfl⟩; dsimp only [Option.toList, List.cons_append, List.nil_append])
        | (rintro w τ ⟨rfl, rfl⟩; dsimp only [Option.toList, List.cons_append, List.nil_append])
        | (rintro w τ ⟨r, rfl, hq⟩; dsimp only [Option.toList, List.cons_append, List.nil_append])
        | (rintro w τ ⟨rfl, hq⟩; dsimp only [Option.toList, List.nil_append])
        | intro _
        | rfl
        | trivial
        | (apply hB; dsimp only [rgo, rfd, Bstrength, Nat.beq, rwp, rst, lv_args, rlk, rs1, rs2, rdl, rky, rct, rcs, rcd, rno, rsw, Value.category, List.filter, List.take, List.drop, List.reverse, List.reverseAux, List.cons_append, List.nil_append, Option.toList, Int.toNat, Int.reduceToNat, if_pos, if_neg, reduceIte, ↓reduceIte, Nat.reduceAdd, Nat.reduceEqDiff, Nat.reduceBEq, beq_self_eq_true, Bool.not_true, Bool.not_false, Bool.and_true, Bool.and_false, Bool.true_and, Bool.false_and, gI_sI, gI_sL, gI_sA, gI_sM, gL_sI, gL_sL, gL_sA, gL_sM, aI_sI, aI_sL, aI_sA, aI_sM, aL_sI, aL_sL, aL_sA, aL_sM, Bstrength_0, Bstrength_164, Bstrength_166, Bstrength_168, Bstrength_170, Bstrength_172, Bstrength_174, Bstrength_177, Bstrength_180, Bstrength_183, Bstrength_186, Bstrength_189, oi_0, oi_1, oi_10, oi_2, oi_3, oi_4, oi_5, oi_6, oi_7, oi_8, oi_9]; try dsimp only)
        | exact Or.inl rfl
        | exact Or.inr rfl
        | decide
        | (exact ⟨_, rfl, rfl⟩)
    next => exact hP.elim
def P_reduce : RP := fun As σ => match As with
  | [.int least] => ∃ σ0, XI σ0 σ [0] 0 0
  | _ => False
def Q_reduce : RQ := fun As σ w τ => match As with
  | [.int least] => w = none ∧ (∀ σ0, XI σ0 σ [0] 0 0 → XI σ0 τ [0] 0 0) ∧ (gI τ 14) = (gI σ 14) ∧ Fx σ τ
  | _ => False
set_option maxRecDepth 100000 in
set_option maxHeartbeats 4000000 in
theorem m_reduce (l : Launch) : RMet l 3 32 P_reduce Q_reduce := by
  refine RMet.by Breduce [(21, P_emitExp, Q_emitExp), (22, P_strength, Q_strength)] roreduce okBreduce (ctc (m_emitExp l) (by decide) (ctc (m_strength l) (by decide) ct0)) ?_ ?_
  · intro As σ hP
    unfold P_reduce at hP
    split at hP
    next => exact Nat.le_of_ble_eq_true rfl
    next => exact hP.elim
  · intro As σ hP G hB hW
    unfold P_reduce at hP
    split at hP
    next least => 
      unfold Q_reduce at hB
      dsimp only at hB
      obtain ⟨σa, hXa⟩ := hP
      have loop : ∀ n : Nat, ∀ τ : RS, nT (gI τ 29) ≤ n → (∀ σ0, XI σ0 σ [0] 0 0 → XI σ0 τ [0] 0 0) → gI τ 14 = gI σ 14 → Fx σ τ → ∀ m : Int32, (m = 0 ∨ (m = 1 ∧ 0 < gI τ 29)) → G 13 [(0, .ref 1000), (1, .int least), (2, .int m)] [] τ := by
        intro n
        induction n with
        | zero => sorry
        | succ n ih =>
          intro τ hn hX hp hF m hm
          have hx := hX σa hXa
          have nn := hx.nums
          have w1 := hx.w1
          apply hB
          dsimp only [rgo, rfd, Breduce, Nat.beq, rwp, rst, lv_args, rlk, rs1, rs2, rdl, rky, rct, rcs, rcd, rno, rsw, Value.category, List.filter, List.take, List.drop, List.reverse, List.reverseAux, List.cons_append, List.nil_append, Option.toList, Int.toNat, Int.reduceToNat, if_pos, if_neg, reduceIte, ↓reduceIte, Nat.reduceAdd, Nat.reduceEqDiff, Nat.reduceBEq, beq_self_eq_true, Bool.not_true, Bool.not_false, Bool.and_true, Bool.and_false, Bool.true_and, Bool.false_and, gI_sI, gI_sL, gI_sA, gI_sM, gL_sI, gL_sL, gL_sA, gL_sM, aI_sI, aI_sL, aI_sA, aI_sM, aL_sI, aL_sL, aL_sA, aL_sM, gI_em, gI_emx, gI_pu, gI_wh, Breduce_0, Breduce_7, Breduce_11, Breduce_12, Breduce_13, Breduce_17, Breduce_33, Breduce_38, Breduce_43, Breduce_62, Breduce_66, Breduce_67, Breduce_74, Breduce_75, Breduce_112, Breduce_130, Breduce_135, Breduce_143, Breduce_148, Breduce_150, Breduce_202, Breduce_231, Breduce_235, Breduce_237, Breduce_253, Breduce_260, Breduce_264, Breduce_265, Breduce_269, oi_0, oi_1, oi_11, oi_2, oi_307, oi_308, oi_5, oi_6, oi_7, oi_9, P_emitExp, P_strength]; try dsimp only
          refine ⟨fun _ => ?_, fun hm1 => ?_⟩
          · apply hB
            dsimp only [rgo, rfd, Breduce, Nat.beq, rwp, rst, lv_args, rlk, rs1, rs2, rdl, rky, rct, rcs, rcd, rno, rsw, Value.category, List.filter, List.take, List.drop, List.reverse, List.reverseAux, List.cons_append, List.nil_append, Option.toList, Int.toNat, Int.reduceToNat, if_pos, if_neg, reduceIte, ↓reduceIte, Nat.reduceAdd, Nat.reduceEqDiff, Nat.reduceBEq, beq_self_eq_true, Bool.not_true, Bool.not_false, Bool.and_true, Bool.and_false, Bool.true_and, Bool.false_and, gI_sI, gI_sL, gI_sA, gI_sM, gL_sI, gL_sL, gL_sA, gL_sM, aI_sI, aI_sL, aI_sA, aI_sM, aL_sI, aL_sL, aL_sA, aL_sM, gI_em, gI_emx, gI_pu, gI_wh, Breduce_0, Breduce_7, Breduce_11, Breduce_12, Breduce_13, Breduce_17, Breduce_33, Breduce_38, Breduce_43, Breduce_62, Breduce_66, Breduce_67, Breduce_74, Breduce_75, Breduce_112, Breduce_130, Breduce_135, Breduce_143, Breduce_148, Breduce_150, Breduce_202, Breduce_231, Breduce_235, Breduce_237, Breduce_253, Breduce_260, Breduce_264, Breduce_265, Breduce_269, oi_0, oi_1, oi_11, oi_2, oi_307, oi_308, oi_5, oi_6, oi_7, oi_9, P_emitExp, P_strength]; try dsimp only
            exact ⟨rfl, hX, hp, hF⟩
          · have hop : 0 < gI τ 29 := by lia
            have hox := hx.top hop
            apply hB
            dsimp only [rgo, rfd, Breduce, Nat.beq, rwp, rst, lv_args, rlk, rs1, rs2, rdl, rky, rct, rcs, rcd, rno, rsw, Value.category, List.filter, List.take, List.drop, List.reverse, List.reverseAux, List.cons_append, List.nil_append, Option.toList, Int.toNat, Int.reduceToNat, if_pos, if_neg, reduceIte, ↓reduceIte, Nat.reduceAdd, Nat.reduceEqDiff, Nat.reduceBEq, beq_self_eq_true, Bool.not_true, Bool.not_false, Bool.and_true, Bool.and_false, Bool.true_and, Bool.false_and, gI_sI, gI_sL, gI_sA, gI_sM, gL_sI, gL_sL, gL_sA, gL_sM, aI_sI, aI_sL, aI_sA, aI_sM, aL_sI, aL_sL, aL_sA, aL_sM, gI_em, gI_emx, gI_pu, gI_wh, Breduce_0, Breduce_7, Breduce_11, Breduce_12, Breduce_13, Breduce_17, Breduce_33, Breduce_38, Breduce_43, Breduce_62, Breduce_66, Breduce_67, Breduce_74, Breduce_75, Breduce_112, Breduce_130, Breduce_135, Breduce_143, Breduce_148, Breduce_150, Breduce_202, Breduce_231, Breduce_235, Breduce_237, Breduce_253, Breduce_260, Breduce_264, Breduce_265, Breduce_269, oi_0, oi_1, oi_11, oi_2, oi_307, oi_308, oi_5, oi_6, oi_7, oi_9, P_emitExp, P_strength]; try dsimp only
            trace_state
            sorry
      sorry
    next => exact hP.elim
